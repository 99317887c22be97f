/** For each promise of the document, longer runs: ordinary calls together with edges and wrong arguments. */
public final class PromiseTest extends Checks {
    public static void main(String[] args) {
        runTests(PromiseTest.class);
    }

    // Promise 1

    static void promise1_newObject() {
        ThreeModeJournal x = new ThreeModeJournal();
        due("mode", x.mode(), ORDERED);
        for (int f = 0; f < 6; f++) {
            due("length", x.length(f), 0);
            due("read", x.read(f, 0), 0);
        }
        for (int b = 0; b < 23; b++) {
            dueHome(x, b, 0, 0, 0, 0);
        }
        due("need", x.need(), 0);
        due("room", x.room(), 24);
        due("head", x.head(), 0);
        due("dirty", x.dirty(), 0);
        due("free", x.free(), 16);
        due("writes", x.writes(), 0);
        due("mount", x.mount(ORDERED), NONE);
        for (int i = 0; i < 100; i++) {
            x.write(0, 0, i);
            due("commit without a fuse", x.commit(), i == 0 ? 4 : 0);
        }
        due("another new disk", new ThreeModeJournal().length(0), 0);
    }

    // Promise 2

    static void promise2_writeSetsAndGrows() {
        ThreeModeJournal x = new ThreeModeJournal();
        due("write", x.write(5, 0, Integer.MIN_VALUE), true);
        due("read", x.read(5, 0), Integer.MIN_VALUE);
        due("length", x.length(5), 1);
        due("need of inode and map", x.need(), 4);
        x.commit();
        due("write of the same word", x.write(5, 0, Integer.MIN_VALUE), true);
        due("dirty", x.dirty(), 1);
        due("need without growing", x.need(), 0);
        due("write", x.write(5, 1, -1), true);
        due("need of the inode", x.need(), 3);
        due("dirty once", x.dirty(), 1);
        due("write", x.write(5, 0, 8), true);
        due("length after setting an old word", x.length(5), 2);
        due("read", x.read(5, 0), 8);
        due("read", x.read(5, 1), -1);
        due("writes of write", x.writes(), 5);
    }

    static void promise2_writeTakesBlocks() {
        ThreeModeJournal x = new ThreeModeJournal();
        int[] needs = {4, 3, 3, 3, 4, 3, 3, 3, 5, 3, 3, 3, 5, 3, 3, 3, 5, 3, 3, 3, 5, 3, 3, 3};
        int[] left = {15, 15, 15, 15, 14, 14, 14, 14, 12, 12, 12, 12, 11, 11, 11, 11, 10, 10, 10, 10, 9, 9, 9, 9};
        for (int o = 0; o < 24; o++) {
            due("write", x.write(0, o, wordOf(0, o)), true);
            due("need at " + o, x.need(), needs[o]);
            due("free at " + o, x.free(), left[o]);
            due("dirty at " + o, x.dirty(), 1);
            x.commit();
        }
        x.checkpoint(99);
        dueHome(x, 0, 24, 7, 8, 9);
        dueHome(x, 6, 0x7F, 0, 0, 0);
        dueHome(x, 9, 10, 11, 12, 13);
        int[] data = {7, 8, 10, 11, 12, 13};
        for (int i = 0; i < 6; i++) {
            dueHome(x, data[i], wordOf(0, 4 * i), wordOf(0, 4 * i + 1), wordOf(0, 4 * i + 2), wordOf(0, 4 * i + 3));
        }
        for (int o = 0; o < 24; o++) {
            due("write", x.write(0, o, -o), true);
            due("need", x.need(), 0);
        }
        due("dirty", x.dirty(), 6);
        due("read", x.read(0, 23), -23);
    }

    static void promise2_writeInFullMode() {
        ThreeModeJournal x = in(FULL);
        due("write", x.write(0, 0, 1), true);
        due("need of inode, map and data", x.need(), 5);
        due("dirty", x.dirty(), 0);
        due("commit", x.commit(), 5);
        due("write", x.write(0, 0, 2), true);
        due("need of data alone", x.need(), 3);
        due("dirty", x.dirty(), 0);
        grow(x, 0, 8);
        x.commit();
        due("write", x.write(0, 8, 3), true);
        due("need of inode, map, index and data", x.need(), 6);
    }

    static void promise2_writeRefused() {
        ThreeModeJournal x = new ThreeModeJournal();
        grow(x, 0, 2);
        for (int f : NO_FILES) {
            due("write to file " + f, x.write(f, 0, 1), false);
        }
        int[] offsets = {-1, 3, 4, 8, 23, 24, 25, Integer.MIN_VALUE, Integer.MAX_VALUE};
        for (int o : offsets) {
            due("write at " + o, x.write(0, o, 1), false);
        }
        due("length", x.length(0), 2);
        due("need", x.need(), 4);
        due("dirty", x.dirty(), 1);
        grow(x, 0, 24);
        due("write at the end", x.write(0, 23, 1), true);
        due("write behind the end", x.write(0, 24, 1), false);
        due("length", x.length(0), 24);
        due("write when down", down().write(0, 0, 1), false);

        ThreeModeJournal y = new ThreeModeJournal();
        fillPool(y);
        due("write without a block", y.write(3, 0, 1), false);
        due("write without two blocks", y.write(2, 8, 1), false);
        due("need", y.need(), 0);
        due("write that takes none", y.write(2, 7, 1), true);
        due("cut", y.cut(1, 20), true);
        y.commit();
        due("free", y.free(), 1);
        due("write without a second block", y.write(2, 8, 1), false);
        due("length", y.length(2), 8);
        due("free", y.free(), 1);
        due("need", y.need(), 0);
        due("write that takes one", y.write(1, 20, 1), true);
        due("free", y.free(), 0);
    }

    static void promise2_writeLeavesOldWords() {
        ThreeModeJournal x = new ThreeModeJournal();
        grow(x, 0, 4);
        x.commit();
        x.cut(0, 1);
        x.write(0, 1, 5);
        x.commit();
        dueHome(x, 7, wordOf(0, 0), 5, wordOf(0, 2), wordOf(0, 3));
        x.cut(0, 0);
        x.commit();
        x.write(1, 0, 6);
        x.commit();
        dueHome(x, 7, 6, 0, 0, 0);
    }

    static void promise2_writeTakesWhatTheLastCommitLeft() {
        ThreeModeJournal x = new ThreeModeJournal();
        grow(x, 0, 8);
        x.cut(0, 4);
        x.write(1, 0, 1);
        x.commit();
        due("block 8 was in no commit", x.home(8, 0), 1);
        x.cut(0, 0);
        x.write(2, 0, 2);
        x.commit();
        due("block 7 was in use at the commit", x.home(7, 0), wordOf(0, 0));
        due("block 9 was not", x.home(9, 0), 2);
        x.write(3, 0, 3);
        x.commit();
        due("block 7 is the least now", x.home(7, 0), 3);
        x.cut(3, 0);
        x.crash();
        x.mount(ORDERED);
        x.cut(3, 0);
        x.write(4, 0, 4);
        x.commit();
        due("block 7 was in use at the mount", x.home(7, 0), 3);
        due("block 10 was not", x.home(10, 0), 4);
    }

    static void promise2_writeCommitsLargeTransaction() {
        ThreeModeJournal x = large();
        due("write", x.write(0, 1, 7), true);
        due("need", x.need(), 4);
        due("writes", x.writes(), 13);
        due("room", x.room(), 11);
        due("head", x.head(), 13);
        x.crash();
        due("mount", x.mount(FULL), 1);
        due("length", x.length(0), 1);

        ThreeModeJournal y = large();
        y.fuse(12);
        due("write", y.write(0, 1, 7), false);
        due("mode", y.mode(), NONE);
        due("mount", y.mount(FULL), 0);
        due("writes", y.writes(), 12);
        due("length", y.length(0), 0);
        due("room", y.room(), 24);
    }

    static void promise2_largeTransactionAndRefusal() {
        ThreeModeJournal x = large();
        due("write", x.write(0, 2, 7), false);
        due("write", x.write(6, 0, 7), false);
        due("write", x.write(0, 24, 7), false);
        due("writes", x.writes(), 0);
        due("need", x.need(), 13);

        ThreeModeJournal y = in(FULL);
        fillPool(y);
        y.cut(0, 0);
        for (int i = 0; i < 6; i++) {
            y.write(1, 4 * i, 5);
        }
        y.write(2, 0, 5);
        int before = y.writes();
        due("need", y.need(), 13);
        due("free before the commit", y.free(), 0);
        due("write", y.write(3, 0, 1), false);
        due("writes", y.writes(), before);
        due("need", y.need(), 13);
        due("commit", y.commit(), 13);
        due("free", y.free(), 7);
        due("write", y.write(3, 0, 1), true);

        ThreeModeJournal z = needOfTwelve();
        before = z.writes();
        due("write", z.write(2, 1, 1), true);
        due("need", z.need(), 12);
        due("writes", z.writes(), before);
        due("write that joins an index", z.write(0, 8, 1), true);
        due("need", z.need(), 14);
        due("writes", z.writes(), before);
        due("write", z.write(3, 1, 1), true);
        due("need after the commit", z.need(), 3);
        due("head", z.head(), 22);
    }

    // Promise 3

    static void promise3_cutJoinsAndFrees() {
        ThreeModeJournal x = new ThreeModeJournal();
        grow(x, 0, 24);
        x.commit();
        x.checkpoint(1);
        int[] to = {23, 21, 20, 17, 12, 9, 8, 5, 4, 1, 0};
        int[] needs = {3, 3, 5, 3, 5, 3, 4, 3, 4, 3, 4};
        int[] used = {7, 7, 6, 6, 4, 4, 2, 2, 1, 1, 0};
        for (int i = 0; i < to.length; i++) {
            due("cut to " + to[i], x.cut(0, to[i]), true);
            due("need of cut to " + to[i], x.need(), needs[i]);
            due("length", x.length(0), to[i]);
            due("read", x.read(0, to[i]), 0);
            x.commit();
            x.checkpoint(1);
            due("free after cut to " + to[i], x.free(), 16 - used[i]);
            due("home length", x.home(0, 0), to[i]);
            due("map", Integer.bitCount(x.home(6, 0)), used[i]);
            due("data block 0", x.home(0, 1), to[i] > 0 ? 7 : 0);
            due("data block 1", x.home(0, 2), to[i] > 4 ? 8 : 0);
            due("index", x.home(0, 3), to[i] > 8 ? 9 : 0);
            if (to[i] > 8) {
                dueHome(x, 9, 10, to[i] > 12 ? 11 : 0, to[i] > 16 ? 12 : 0, to[i] > 20 ? 13 : 0);
            }
        }
    }

    static void promise3_cutRevokes() {
        for (int mode = WRITEBACK; mode <= FULL; mode++) {
            ThreeModeJournal x = in(mode);
            grow(x, 0, 9);
            x.commit();
            x.cut(0, 8);
            due("need with the index live, mode " + mode, x.need(), mode == FULL ? 4 : 5);
            x.commit();
            x.commit();
            x.write(0, 8, 1);
            x.cut(0, 8);
            due("need with the index revoked, mode " + mode, x.need(), 4);
        }
        ThreeModeJournal x = new ThreeModeJournal();
        grow(x, 0, 9);
        x.cut(0, 0);
        due("need with no copy", x.need(), 4);
        grow(x, 0, 9);
        x.commit();
        x.checkpoint(1);
        x.cut(0, 0);
        due("need with no copy in the log", x.need(), 4);
        x.crash();
        x.mount(WRITEBACK);
        grow(x, 1, 9);
        x.commit();
        grow(x, 1, 13);
        x.commit();
        x.cut(1, 9);
        due("need with the index kept", x.need(), 5);
        x.cut(1, 7);
        due("need with the index revoked once", x.need(), 5);
    }

    static void promise3_cutTakesOutOfRunningTransaction() {
        ThreeModeJournal x = new ThreeModeJournal();
        grow(x, 0, 9);
        due("dirty", x.dirty(), 3);
        x.cut(0, 8);
        due("dirty", x.dirty(), 2);
        due("need", x.need(), 4);
        x.cut(0, 1);
        due("dirty", x.dirty(), 1);
        x.cut(0, 0);
        due("dirty", x.dirty(), 0);
        due("free", x.free(), 16);
        due("commit", x.commit(), 4);
        due("writes", x.writes(), 4);

        ThreeModeJournal y = in(FULL);
        grow(y, 0, 8);
        due("need", y.need(), 6);
        y.cut(0, 4);
        due("need", y.need(), 5);
        y.cut(0, 0);
        due("need", y.need(), 4);
    }

    static void promise3_cutRefused() {
        ThreeModeJournal x = new ThreeModeJournal();
        grow(x, 0, 5);
        x.commit();
        int[] lengths = {5, 6, 24, -1, Integer.MIN_VALUE, Integer.MAX_VALUE};
        for (int n : lengths) {
            due("cut to " + n, x.cut(0, n), false);
        }
        for (int f : NO_FILES) {
            due("cut of file " + f, x.cut(f, 0), false);
        }
        due("cut of an empty file", x.cut(1, 0), false);
        due("need", x.need(), 0);
        due("length", x.length(0), 5);
        due("cut when down", down().cut(0, 0), false);
    }

    static void promise3_cutAndLargeTransaction() {
        ThreeModeJournal x = large();
        due("cut", x.cut(0, 1), false);
        due("writes", x.writes(), 0);
        due("cut", x.cut(0, 0), true);
        due("writes", x.writes(), 13);
        due("need", x.need(), 4);
        ThreeModeJournal y = large();
        y.fuse(0);
        due("cut", y.cut(0, 0), false);
        due("mode", y.mode(), NONE);
    }

    // Promise 4

    static void promise4_renameMoves() {
        ThreeModeJournal x = new ThreeModeJournal();
        grow(x, 0, 9);
        grow(x, 1, 5);
        x.commit();
        due("rename", x.rename(1, 0), true);
        due("need of two inodes, the map, one revoked", x.need(), 6);
        due("length", x.length(0), 5);
        due("length", x.length(1), 0);
        due("read", x.read(0, 4), wordOf(1, 4));
        due("read", x.read(1, 0), 0);
        x.commit();
        x.checkpoint(9);
        dueHome(x, 0, 5, 11, 12, 0);
        dueHome(x, 1, 0, 0, 0, 0);
        dueHome(x, 6, 0x30, 0, 0, 0);
        due("free", x.free(), 14);
        due("rename to an empty file", x.rename(0, 5), true);
        due("need of two inodes", x.need(), 4);
        due("length", x.length(5), 5);
        due("rename of an empty file to an empty one", x.rename(2, 3), true);
        due("need of four inodes", x.need(), 6);
        due("rename of an empty file", x.rename(0, 5), true);
        due("length", x.length(5), 0);
        due("length", x.length(0), 0);
        x.commit();
        due("free", x.free(), 16);

        ThreeModeJournal y = in(FULL);
        grow(y, 3, 24);
        y.commit();
        y.rename(3, 2);
        due("need", y.need(), 4);
        due("read", y.read(2, 23), wordOf(3, 23));
        y.write(2, 23, 1);
        due("read", y.read(2, 23), 1);
        y.rename(3, 2);
        due("need in FULL mode", y.need(), 5);

        ThreeModeJournal z = in(WRITEBACK);
        grow(z, 0, 5);
        grow(z, 1, 1);
        z.rename(1, 0);
        due("dirty", z.dirty(), 1);
    }

    static void promise4_renameRefused() {
        ThreeModeJournal x = new ThreeModeJournal();
        grow(x, 0, 1);
        x.commit();
        for (int f : NO_FILES) {
            due("rename of " + f, x.rename(f, 0), false);
            due("rename to " + f, x.rename(0, f), false);
        }
        for (int f = 0; f < 6; f++) {
            due("rename to itself", x.rename(f, f), false);
        }
        due("need", x.need(), 0);
        due("length", x.length(0), 1);
        due("rename when down", down().rename(0, 1), false);
    }

    static void promise4_renameAndLargeTransaction() {
        ThreeModeJournal x = large();
        due("rename", x.rename(0, 0), false);
        due("writes", x.writes(), 0);
        due("rename", x.rename(0, 1), true);
        due("writes", x.writes(), 13);
        due("need", x.need(), 5);
        ThreeModeJournal y = large();
        y.fuse(5);
        due("rename", y.rename(0, 1), false);
        due("mode", y.mode(), NONE);
        due("writes", y.writes(), 5);
    }

    // Promise 5

    static void promise5_readPresentWords() {
        ThreeModeJournal x = in(WRITEBACK);
        for (int f = 0; f < 2; f++) {
            grow(x, f, 24 - 23 * f);
        }
        for (int o = 0; o < 24; o++) {
            due("read", x.read(0, o), wordOf(0, o));
        }
        due("read", x.read(1, 0), wordOf(1, 0));
        due("read behind the end", x.read(1, 1), 0);
        x.flush(99);
        due("read of what is written", x.read(0, 11), wordOf(0, 11));
        x.cut(0, 11);
        due("read behind the end", x.read(0, 11), 0);
        due("read", x.read(0, 10), wordOf(0, 10));
        int[] offsets = {-1, 24, 25, Integer.MIN_VALUE, Integer.MAX_VALUE};
        for (int o : offsets) {
            due("read at " + o, x.read(0, o), 0);
        }
        for (int f : NO_FILES) {
            due("read of file " + f, x.read(f, 0), 0);
        }
        due("read when down", down().read(0, 0), 0);
    }

    // Promise 6

    static void promise6_lengthOfFiles() {
        ThreeModeJournal x = new ThreeModeJournal();
        for (int f = 0; f < 6; f++) {
            grow(x, f, f);
        }
        for (int f = 0; f < 6; f++) {
            due("length", x.length(f), f);
        }
        for (int f : NO_FILES) {
            due("length of file " + f, x.length(f), NONE);
        }
        due("length when down", down().length(0), NONE);
    }

    // Promise 7

    static void promise7_commitWrites() {
        ThreeModeJournal x = new ThreeModeJournal();
        due("commit of nothing", x.commit(), 0);
        due("writes", x.writes(), 0);
        grow(x, 0, 9);
        due("commit", x.commit(), 5);
        due("writes of three data blocks and five log blocks", x.writes(), 8);
        due("need", x.need(), 0);
        dueHome(x, 0, 0, 0, 0, 0);
        dueHome(x, 9, 0, 0, 0, 0);
        dueHome(x, 6, 0, 0, 0, 0);
        x.write(0, 3, 77);
        due("commit with nothing joined", x.commit(), 0);
        due("writes", x.writes(), 9);
        due("dirty", x.dirty(), 0);
        due("home", x.home(7, 3), 77);
        due("room", x.room(), 19);
        x.crash();
        due("mount: commits of nothing are not in the log", x.mount(ORDERED), 1);
        due("commit when down", down().commit(), NONE);
    }

    static void promise7_commitInEachMode() {
        ThreeModeJournal x = in(WRITEBACK);
        grow(x, 0, 5);
        due("commit", x.commit(), 4);
        due("dirty", x.dirty(), 2);
        due("writes", x.writes(), 4);
        due("commit", x.commit(), 0);
        due("writes", x.writes(), 4);
        due("home", x.home(7, 0), 0);

        ThreeModeJournal y = in(FULL);
        grow(y, 0, 5);
        due("commit", y.commit(), 6);
        due("writes", y.writes(), 6);
        due("home", y.home(7, 0), 0);
        y.crash();
        due("mount", y.mount(FULL), 1);
        due("home", y.home(7, 0), wordOf(0, 0));

        ThreeModeJournal z = new ThreeModeJournal();
        grow(z, 0, 8);
        z.commit();
        z.write(0, 4, 2);
        z.write(0, 0, 1);
        z.write(0, 5, 3);
        z.fuse(1);
        due("commit", z.commit(), FAILED);
        due("first dirty first", z.home(8, 0), 2);
        due("with its present words", z.home(8, 1), 3);
        due("the other not", z.home(7, 0), wordOf(0, 0));
    }

    static void promise7_commitMakesRoom() {
        ThreeModeJournal x = almostFullLog();
        grow(x, 0, 8);
        due("commit", x.commit(), 3);
        due("writes of data, header and three log blocks", x.writes(), 35);
        due("room", x.room(), 2);
        due("head", x.head(), 2);
        due("no copy was live", x.home(0, 0), 0);
        due("nor the map's", x.home(6, 0), 0);
        x.crash();
        due("mount", x.mount(ORDERED), 7);
        due("length", x.length(0), 8);

        ThreeModeJournal y = new ThreeModeJournal();
        for (int f = 0; f < 6; f++) {
            grow(y, f, 1);
            due("commit", y.commit(), 4);
        }
        due("room", y.room(), 0);
        due("head", y.head(), 0);
        grow(y, 0, 2);
        due("commit", y.commit(), 3);
        due("writes of data, header and log", y.writes(), 30 + 5 + 1);
        due("the inode was live", y.home(0, 0), 1);
        due("of the oldest", y.home(1, 0), 0);
        due("room", y.room(), 1);
    }

    static void promise7_commitMakesRoomOfSeveral() {
        ThreeModeJournal x = almostFullLog();
        grow(x, 1, 1);
        grow(x, 2, 1);
        due("need", x.need(), 5);
        due("one gives enough", x.commit(), 5);
        due("room", x.room(), 0);
        x.write(3, 0, 1);
        due("two are needed", x.commit(), 4);
        due("room", x.room(), 2);
        due("writes of three data blocks, two headers, nine log blocks", x.writes(), 30 + 3 + 2 + 9);
        due("head", x.head(), 8);
        x.crash();
        due("mount", x.mount(ORDERED), 6);
        due("length", x.length(0), 7);
        due("length", x.length(3), 1);
    }

    static void promise7_commitAndPower() {
        for (int k = 0; k <= 6; k++) {
            ThreeModeJournal x = new ThreeModeJournal();
            grow(x, 0, 5);
            x.fuse(k);
            due("commit with fuse " + k, x.commit(), k < 6 ? FAILED : 4);
            due("writes", x.writes(), k);
            due("mode", x.mode(), k < 6 ? NONE : ORDERED);
            due("home", x.home(7, 3), k > 0 ? wordOf(0, 3) : 0);
            due("home", x.home(8, 0), k > 1 ? wordOf(0, 4) : 0);
            x.crash();
            due("mount after fuse " + k, x.mount(ORDERED), k < 6 ? 0 : 1);
            due("length", x.length(0), k < 6 ? 0 : 5);
            due("room", x.room(), 24);
            due("head", x.head(), k < 6 ? 0 : 4);
            due("free", x.free(), k < 6 ? 16 : 14);
        }
    }

    static void promise7_commitCheckpointsThenFails() {
        ThreeModeJournal x = almostFullLog();
        grow(x, 0, 8);
        x.fuse(1);
        due("fails at the header", x.commit(), FAILED);
        due("mount", x.mount(ORDERED), 7);
        due("length", x.length(0), 7);

        ThreeModeJournal y = almostFullLog();
        grow(y, 0, 8);
        y.fuse(4);
        due("fails at the commit block", y.commit(), FAILED);
        due("mount", y.mount(ORDERED), 6);
        due("length", y.length(0), 7);
        due("head", y.head(), 23);
    }

    // Promise 8

    static void promise8_syncWritesOwnBlocks() {
        ThreeModeJournal x = in(WRITEBACK);
        grow(x, 0, 8);
        grow(x, 1, 1);
        x.flush(99);
        x.commit();
        due("writes", x.writes(), 8);
        x.write(0, 4, 1);
        x.write(1, 0, 2);
        x.write(0, 0, 3);
        due("sync with nothing joined", x.sync(0), true);
        due("writes", x.writes(), 10);
        due("dirty", x.dirty(), 1);
        due("home", x.home(7, 0), 3);
        due("home", x.home(8, 0), 1);
        due("home", x.home(9, 0), wordOf(1, 0));
        grow(x, 1, 2);
        due("sync of a file without dirty blocks", x.sync(5), true);
        due("writes of a commit of all files", x.writes(), 13);
        due("need", x.need(), 0);
        due("dirty", x.dirty(), 1);

        ThreeModeJournal y = new ThreeModeJournal();
        grow(y, 0, 1);
        grow(y, 1, 1);
        due("sync in ORDERED mode", y.sync(1), true);
        due("dirty", y.dirty(), 0);
        due("home", y.home(7, 0), wordOf(0, 0));
        due("writes", y.writes(), 7);

        ThreeModeJournal z = in(FULL);
        grow(z, 0, 1);
        due("sync in FULL mode", z.sync(1), true);
        due("writes", z.writes(), 5);
        due("room", z.room(), 19);
        due("sync of nothing", z.sync(0), true);
    }

    static void promise8_syncRefusedOrFailed() {
        ThreeModeJournal x = in(WRITEBACK);
        grow(x, 0, 8);
        for (int f : NO_FILES) {
            due("sync of file " + f, x.sync(f), false);
        }
        due("dirty", x.dirty(), 2);
        due("writes", x.writes(), 0);
        due("sync when down", down().sync(0), false);
        x.sync(0);
        x.write(0, 4, 1);
        x.write(0, 0, 2);
        x.fuse(1);
        due("sync that fails", x.sync(0), false);
        due("mode", x.mode(), NONE);
        due("first dirty first", x.home(8, 0), 1);
        due("the other not", x.home(7, 0), wordOf(0, 0));
        x.mount(FULL);
        x.write(0, 0, 4);
        x.fuse(2);
        due("sync that fails in its commit", x.sync(0), false);
        due("mode", x.mode(), NONE);
    }

    // Promise 9

    static void promise9_flushInOrder() {
        ThreeModeJournal x = new ThreeModeJournal();
        grow(x, 0, 4);
        grow(x, 1, 4);
        grow(x, 2, 4);
        due("flush", x.flush(3), 3);
        x.write(2, 0, 1);
        x.write(0, 0, 2);
        x.write(1, 0, 3);
        x.write(2, 1, 4);
        due("flush", x.flush(1), 1);
        due("the first", x.home(9, 0), 1);
        due("with its present words", x.home(9, 1), 4);
        due("not the second", x.home(7, 0), wordOf(0, 0));
        x.write(2, 2, 5);
        due("flush", x.flush(2), 2);
        due("the second", x.home(7, 0), 2);
        due("the third", x.home(8, 0), 3);
        due("not the latest", x.home(9, 2), wordOf(2, 2));
        due("dirty", x.dirty(), 1);
        due("flush of all", x.flush(Integer.MAX_VALUE), 1);
        due("home", x.home(9, 2), 5);
        due("flush of none", x.flush(1), 0);
        due("writes", x.writes(), 7);
        due("need", x.need(), 6);

        ThreeModeJournal y = new ThreeModeJournal();
        grow(y, 0, 12);
        y.cut(0, 4);
        grow(y, 1, 1);
        due("flush without the freed blocks", y.flush(9), 2);
        ThreeModeJournal z = in(FULL);
        grow(z, 0, 1);
        due("flush in FULL mode", z.flush(1), 0);
    }

    static void promise9_flushRefusedOrFailed() {
        ThreeModeJournal x = in(WRITEBACK);
        grow(x, 0, 12);
        int[] counts = {0, -1, Integer.MIN_VALUE};
        for (int n : counts) {
            due("flush", x.flush(n), NONE);
        }
        due("dirty", x.dirty(), 3);
        x.fuse(2);
        due("flush that fails", x.flush(3), FAILED);
        due("mode", x.mode(), NONE);
        due("home", x.home(8, 0), wordOf(0, 4));
        due("home", x.home(10, 0), 0);
        due("flush when down", x.flush(1), NONE);
        x.mount(WRITEBACK);
        grow(x, 0, 12);
        x.fuse(2);
        due("flush with enough", x.flush(2), 2);
        due("mode", x.mode(), WRITEBACK);
    }

    // Promise 10

    static void promise10_checkpointLiveCopies() {
        ThreeModeJournal x = new ThreeModeJournal();
        due("checkpoint of no log", x.checkpoint(1), 0);
        grow(x, 0, 1);
        x.commit();
        grow(x, 1, 1);
        x.commit();
        x.write(0, 1, 5);
        x.commit();
        due("writes", x.writes(), 14);
        due("checkpoint with no live copy", x.checkpoint(1), 1);
        due("room", x.room(), 17);
        dueHome(x, 0, 0, 0, 0, 0);
        due("checkpoint of inode 1 and the map", x.checkpoint(1), 3);
        dueHome(x, 1, 1, 8, 0, 0);
        dueHome(x, 6, 3, 0, 0, 0);
        dueHome(x, 0, 0, 0, 0, 0);
        due("checkpoint of inode 0", x.checkpoint(Integer.MAX_VALUE), 2);
        dueHome(x, 0, 2, 7, 0, 0);
        due("room", x.room(), 24);
        due("head", x.head(), 11);
        due("checkpoint of no log", x.checkpoint(5), 0);
        due("writes", x.writes(), 20);
    }

    static void promise10_checkpointTogether() {
        ThreeModeJournal x = new ThreeModeJournal();
        grow(x, 0, 9);
        x.commit();
        x.cut(0, 8);
        x.commit();
        grow(x, 1, 1);
        x.commit();
        due("block 9 is data now", x.home(9, 0), wordOf(1, 0));
        due("checkpoint of two: inode 0", x.checkpoint(2), 2);
        due("the revoked index is not written", x.home(9, 0), wordOf(1, 0));
        dueHome(x, 0, 8, 7, 8, 0);
        due("the map is not live", x.home(6, 0), 0);
        due("checkpoint of inode 1 and the map", x.checkpoint(1), 3);
        dueHome(x, 6, 7, 0, 0, 0);

        ThreeModeJournal y = new ThreeModeJournal();
        grow(y, 0, 9);
        y.commit();
        y.cut(0, 8);
        due("the running transaction does not count", y.checkpoint(1), 4);
        due("the index is written", y.home(9, 0), 10);
        due("what was revoked stays so", y.need(), 5);
    }

    static void promise10_checkpointRefusedOrFailed() {
        for (int k = 0; k <= 4; k++) {
            ThreeModeJournal x = new ThreeModeJournal();
            grow(x, 1, 9);
            x.commit();
            grow(x, 0, 1);
            x.commit();
            x.fuse(k);
            // Inode 1 and the index of the one, inode 0 and the map of the other, the header.
            due("checkpoint with fuse " + k, x.checkpoint(2), FAILED);
            due("mode", x.mode(), NONE);
            due("inode 1", x.home(1, 0), k > 0 ? 9 : 0);
            due("index", x.home(9, 0), k > 1 ? 10 : 0);
            due("inode 0", x.home(0, 0), k > 2 ? 1 : 0);
            due("map", x.home(6, 0), k > 3 ? 0x1F : 0);
            due("checkpoint when down", x.checkpoint(1), NONE);
            due("the log is as before", x.mount(ORDERED), 2);
            due("length", x.length(1), 9);
        }
        ThreeModeJournal x = new ThreeModeJournal();
        grow(x, 0, 1);
        x.commit();
        int[] counts = {0, -1, Integer.MIN_VALUE};
        for (int n : counts) {
            due("checkpoint", x.checkpoint(n), NONE);
        }
        due("room", x.room(), 20);
        x.fuse(3);
        due("checkpoint with enough", x.checkpoint(1), 3);
        due("the next write fails", x.write(0, 1, 1) && x.flush(1) == FAILED, true);
    }

    // Promise 11

    static void promise11_fuseCountsWrites() {
        ThreeModeJournal x = new ThreeModeJournal();
        grow(x, 0, 1);
        x.fuse(0);
        due("calls without writes", x.mode(), ORDERED);
        due("checkpoint without writes", x.checkpoint(1), 0);
        due("write", x.write(0, 1, 1), true);
        due("flush", x.flush(1), FAILED);
        due("mode", x.mode(), NONE);
        due("writes", x.writes(), 0);
        due("there is no fuse any more", x.mount(WRITEBACK), 0);
        grow(x, 0, 24);
        due("flush", x.flush(99), 6);
        x.fuse(0);
        x.fuse(-1);
        due("none again", x.commit(), 5);
        x.fuse(0);
        x.fuse(Integer.MIN_VALUE);
        x.write(0, 0, 1);
        due("none again", x.flush(1), 1);
        x.fuse(1);
        x.fuse(2);
        x.write(0, 0, 2);
        due("the latest counts", x.flush(1), 1);
        x.write(0, 0, 3);
        due("the latest counts", x.flush(1), 1);
        x.write(0, 0, 4);
        due("the latest counts", x.flush(1), FAILED);
        due("home", x.home(7, 0), 3);
        x.fuse(2);
        due("a fuse set when down", x.mount(ORDERED), FAILED);
        due("is gone then", x.mount(ORDERED), 1);
        x.fuse(1);
        x.crash();
        due("crash leaves none", x.mount(ORDERED), 0);
        grow(x, 1, 4);
        due("commit", x.commit(), 4);
        x.fuse(Integer.MAX_VALUE);
        due("a long fuse", x.checkpoint(1), 3);
    }

    // Promise 12

    static void promise12_crashLosesMemory() {
        ThreeModeJournal x = new ThreeModeJournal();
        grow(x, 0, 3);
        due("crash", x.crash(), true);
        due("mode", x.mode(), NONE);
        due("length", x.length(0), NONE);
        due("crash when down", x.crash(), false);
        x.fuse(0);
        due("crash when down", x.crash(), false);
        due("an empty log needs no write", x.mount(ORDERED), 0);
        due("length", x.length(0), 0);
        due("need", x.need(), 0);
        due("dirty", x.dirty(), 0);
        due("free", x.free(), 16);
        grow(x, 0, 1);
        due("the fuse was left as it was", x.commit(), FAILED);
        x.mount(ORDERED);
        grow(x, 0, 1);
        x.commit();
        x.crash();
        x.fuse(1);
        due("crash when down", x.crash(), false);
        due("the fuse was left as it was", x.mount(ORDERED), FAILED);
        due("writes", x.writes(), 6);
    }

    // Promise 13

    static void promise13_mountRecovers() {
        ThreeModeJournal x = new ThreeModeJournal();
        grow(x, 0, 1);
        x.commit();
        grow(x, 0, 2);
        x.commit();
        grow(x, 1, 1);
        x.commit();
        grow(x, 2, 1);
        x.crash();
        due("writes", x.writes(), 14);
        due("mount", x.mount(WRITEBACK), 3);
        due("writes of five copies, live or not, and the header", x.writes(), 20);
        due("mode", x.mode(), WRITEBACK);
        dueHome(x, 0, 2, 7, 0, 0);
        dueHome(x, 1, 1, 8, 0, 0);
        dueHome(x, 2, 0, 0, 0, 0);
        dueHome(x, 6, 3, 0, 0, 0);
        due("length", x.length(0), 2);
        due("length", x.length(2), 0);
        due("read", x.read(0, 1), wordOf(0, 1));
        due("room", x.room(), 24);
        due("head stays", x.head(), 11);
        due("need", x.need(), 0);
        due("dirty", x.dirty(), 0);
        due("free", x.free(), 14);
        x.crash();
        due("mount of an empty log", x.mount(FULL), 0);
        due("writes", x.writes(), 20);
        due("head stays", x.head(), 11);
        x.write(0, 0, 9);
        x.crash();
        x.mount(FULL);
        due("read of what was lost", x.read(0, 0), wordOf(0, 0));
    }

    /** Nine copies in one transaction, from each place of the ring on. */
    static void promise13_mountRecoversEveryCopy() {
        for (int skipped = 0; skipped < 8; skipped++) {
            ThreeModeJournal x = in(FULL);
            for (int i = 0; i < skipped; i++) {
                x.rename(5, 4);
                x.rename(3, 4);
                due("commit", x.commit(), 5);
            }
            grow(x, 0, 24);
            due("need of the second transaction", x.need(), 4);
            due("head", x.head(), (5 * skipped + 13) % 24);
            x.commit();
            x.crash();
            x.mount(WRITEBACK);
            dueHome(x, 0, 24, 7, 8, 9);
            dueHome(x, 6, 0x7F, 0, 0, 0);
            dueHome(x, 9, 10, 11, 12, 13);
            for (int o = 0; o < 24; o++) {
                due("read", x.read(0, o), wordOf(0, o));
            }
        }
    }

    static void promise13_mountLeavesAllRevokedCopies() {
        ThreeModeJournal x = new ThreeModeJournal();
        grow(x, 0, 9);
        grow(x, 1, 9);
        due("commit", x.commit(), 8);
        x.cut(0, 8);
        x.cut(1, 8);
        due("commit", x.commit(), 6);
        x.write(2, 0, 1);
        x.write(3, 0, 2);
        x.write(4, 0, 3);
        due("commit", x.commit(), 6);
        due("data in the first index", x.home(9, 0), 1);
        due("data in a data block", x.home(10, 0), 2);
        due("data in the second index", x.home(13, 0), 3);
        int before = x.writes();
        x.crash();
        due("mount", x.mount(ORDERED), 3);
        due("writes", x.writes(), before + 3 + 3 + 4 + 1);
        due("read", x.read(2, 0), 1);
        due("read", x.read(4, 0), 3);
    }

    static void promise13_mountLeavesRevokedCopies() {
        ThreeModeJournal x = new ThreeModeJournal();
        grow(x, 0, 9);
        x.commit();
        grow(x, 0, 13);
        x.commit();
        x.cut(0, 8);
        x.commit();
        grow(x, 1, 1);
        x.commit();
        int before = x.writes();
        x.crash();
        due("mount", x.mount(ORDERED), 4);
        due("writes of eight copies and the header", x.writes(), before + 9);
        due("read of the block that was an index", x.read(1, 0), wordOf(1, 0));

        ThreeModeJournal y = new ThreeModeJournal();
        grow(y, 0, 9);
        y.commit();
        y.cut(0, 8);
        y.commit();
        grow(y, 0, 9);
        y.commit();
        before = y.writes();
        y.crash();
        due("mount", y.mount(ORDERED), 3);
        due("a copy later than the revoking is written", y.writes(), before + 2 + 2 + 3 + 1);
        due("index", y.home(9, 0), 10);
        due("read", y.read(0, 8), wordOf(0, 8));

        ThreeModeJournal z = new ThreeModeJournal();
        grow(z, 0, 9);
        z.commit();
        z.cut(0, 8);
        z.crash();
        due("mount", z.mount(ORDERED), 1);
        due("what was revoked and not committed is written", z.home(9, 0), 10);
        due("length", z.length(0), 9);
    }

    static void promise13_mountFails() {
        for (int k = 0; k <= 5; k++) {
            ThreeModeJournal x = new ThreeModeJournal();
            grow(x, 1, 1);
            x.commit();
            grow(x, 0, 1);
            x.commit();
            x.crash();
            x.fuse(k);
            due("mount with fuse " + k, x.mount(FULL), k < 5 ? FAILED : 2);
            due("mode", x.mode(), k < 5 ? NONE : FULL);
            due("writes", x.writes(), 10 + k);
            due("inode 1", x.home(1, 0), k > 0 ? 1 : 0);
            due("map", x.home(6, 0), k > 3 ? 3 : k > 1 ? 1 : 0);
            due("inode 0", x.home(0, 0), k > 2 ? 1 : 0);
            due("mount again", x.mount(ORDERED), k < 5 ? 2 : NONE);
            due("writes", x.writes(), k < 5 ? 15 + k : 15);
            due("length", x.length(0), 1);
            due("read", x.read(1, 0), wordOf(1, 0));
            due("head", x.head(), 8);
        }
    }

    static void promise13_mountRefused() {
        ThreeModeJournal x = down();
        int[] modes = {-1, 3, Integer.MIN_VALUE, Integer.MAX_VALUE};
        for (int m : modes) {
            due("mount in mode " + m, x.mount(m), NONE);
        }
        due("mode", x.mode(), NONE);
        due("writes", x.writes(), 5);
        due("mount", x.mount(FULL), 1);
        grow(x, 0, 5);
        due("mount when up", x.mount(ORDERED), NONE);
        due("mode", x.mode(), FULL);
        due("length", x.length(0), 5);
    }

    // Promises 14 to 21

    static void promise14_modes() {
        due("WRITEBACK", WRITEBACK, 0);
        due("ORDERED", ORDERED, 1);
        due("FULL", FULL, 2);
        due("NONE", NONE, -1);
        due("FAILED", FAILED, -2);
        for (int mode = WRITEBACK; mode <= FULL; mode++) {
            ThreeModeJournal x = in(mode);
            due("mode", x.mode(), mode);
            x.crash();
            due("mode when down", x.mode(), NONE);
        }
    }

    static void promise15_homeWords() {
        ThreeModeJournal x = new ThreeModeJournal();
        grow(x, 0, 4);
        dueHome(x, 7, 0, 0, 0, 0);
        x.flush(1);
        dueHome(x, 7, wordOf(0, 0), wordOf(0, 1), wordOf(0, 2), wordOf(0, 3));
        x.crash();
        due("home when down", x.home(7, 3), wordOf(0, 3));
        x.mount(ORDERED);
        fillPool(x);
        x.checkpoint(9);
        due("home of the last block", x.home(22, 3), wordOf(2, 7));
        int[] odd = {-1, 23, 24, 92, Integer.MIN_VALUE, Integer.MAX_VALUE};
        for (int n : odd) {
            due("home of block " + n, x.home(n, 0), 0);
        }
        int[] words = {-1, 4, 5, Integer.MIN_VALUE, Integer.MAX_VALUE};
        for (int w : words) {
            due("home of word " + w, x.home(7, w), 0);
        }
    }

    static void promise16_needs() {
        ThreeModeJournal x = in(FULL);
        due("need of nothing", x.need(), 0);
        int[] needs = {5, 6, 9, 10, 11, 13};
        for (int i = 0; i < 6; i++) {
            grow(x, 0, 4 * i + 1);
            due("need with data block " + i, x.need(), needs[i]);
        }
        x.crash();
        due("need when down", x.need(), NONE);

        // More than four can't be revoked at once: a file with an index has four blocks of the sixteen.
        ThreeModeJournal y = new ThreeModeJournal();
        for (int f = 0; f < 4; f++) {
            grow(y, f, 9);
        }
        y.commit();
        int[] revoking = {6, 7, 9, 10};
        for (int f = 0; f < 4; f++) {
            y.rename(5, f);
            due("need with " + (f + 1) + " revoked", y.need(), revoking[f]);
        }
        due("commit", y.commit(), 10);
        due("need", y.need(), 0);
    }

    static void promise17_roomInLog() {
        ThreeModeJournal x = almostFullLog();
        int[] left = {5, 8, 11, 14, 18, 21, 24, 24};
        for (int room : left) {
            x.checkpoint(1);
            due("room", x.room(), room);
        }
        x.crash();
        due("room when down", x.room(), NONE);
    }

    static void promise18_headGoesRound() {
        ThreeModeJournal x = new ThreeModeJournal();
        int place = 0;
        grow(x, 0, 1);
        for (int i = 0; i < 40; i++) {
            due("head", x.head(), place);
            place = (place + x.commit()) % 24;
            due("head", x.head(), place);
            x.rename(i % 2, 1 - i % 2);
        }
        x.checkpoint(9);
        due("head", x.head(), place);
        x.crash();
        due("head when down", x.head(), NONE);
        x.mount(ORDERED);
        due("head", x.head(), place);

        ThreeModeJournal y = in(FULL);
        for (int i = 0; i < 20; i++) {
            for (int o = 0; o < 8; o++) {
                y.write(0, o, 100 * i + o);
            }
            y.commit();
            int at = y.head();
            y.crash();
            due("mount", y.mount(FULL), 1);
            due("head", y.head(), at);
            for (int o = 0; o < 8; o++) {
                due("read of what went round the ring", y.read(0, o), 100 * i + o);
            }
        }
    }

    static void promise19_dirtyBlocks() {
        ThreeModeJournal x = in(WRITEBACK);
        due("dirty", x.dirty(), 0);
        grow(x, 0, 24);
        due("dirty without the index", x.dirty(), 6);
        grow(x, 1, 4);
        due("dirty", x.dirty(), 7);
        x.flush(2);
        due("dirty", x.dirty(), 5);
        x.cut(0, 12);
        due("dirty", x.dirty(), 2);
        x.sync(1);
        due("dirty", x.dirty(), 1);
        x.rename(0, 1);
        due("dirty", x.dirty(), 1);
        x.crash();
        due("dirty when down", x.dirty(), NONE);
    }

    static void promise20_freeBlocks() {
        ThreeModeJournal x = new ThreeModeJournal();
        due("free", x.free(), 16);
        grow(x, 0, 9);
        due("free", x.free(), 12);
        x.cut(0, 4);
        due("free of what was in no commit", x.free(), 15);
        x.commit();
        x.cut(0, 0);
        due("free of what the commit has", x.free(), 15);
        x.commit();
        due("free", x.free(), 16);
        grow(x, 0, 1);
        x.commit();
        x.cut(0, 0);
        x.crash();
        due("free when down", x.free(), NONE);
        x.mount(ORDERED);
        due("free", x.free(), 15);
        x.cut(0, 0);
        due("free of what the mount had", x.free(), 15);
    }

    static void promise21_writesMade() {
        ThreeModeJournal x = new ThreeModeJournal();
        grow(x, 0, 5);
        due("writes", x.writes(), 0);
        x.flush(1);
        due("writes", x.writes(), 1);
        x.commit();
        due("writes", x.writes(), 6);
        x.checkpoint(1);
        due("writes", x.writes(), 9);
        grow(x, 0, 6);
        x.fuse(2);
        x.commit();
        due("writes when down", x.writes(), 11);
        x.mount(FULL);
        due("writes", x.writes(), 11);
        x.write(0, 0, 1);
        x.commit();
        x.crash();
        due("writes when down", x.writes(), 14);
        x.mount(FULL);
        due("writes", x.writes(), 16);
    }

    static void readme_example() {
        ThreeModeJournal fs = new ThreeModeJournal();
        due("write", fs.write(0, 0, 11), true);
        due("commit", fs.commit(), 4);
        fs.fuse(2);
        due("write", fs.write(0, 1, 12), true);
        due("commit", fs.commit(), FAILED);
        due("mount", fs.mount(FULL), 1);
        due("read", fs.read(0, 0), 11);
        due("length", fs.length(0), 1);
    }
}
