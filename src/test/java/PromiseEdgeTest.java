/**
 * The edges in the document's promises: each sentence that names one has a test of its own, named after the promise
 * and the case. The sentence stands above its tests.
 */
public final class PromiseEdgeTest extends Checks {
    private static final int[] BELOW_1 = {0, -1, Integer.MIN_VALUE};

    public static void main(String[] args) {
        runTests(PromiseEdgeTest.class);
    }

    private static void dueRefusedWhenUp(String call, Call refused, int want) {
        for (int mode : MODES) {
            dueRefused(call + " in mode " + mode, () -> busy(mode), refused, want);
        }
    }

    private static void dueRefusedWhenDown(String call, Call refused, int want) {
        dueRefused(call + " when down", Checks::busyDown, refused, want);
    }

    // Promise 1. "A new disk; the system is up, in ORDERED mode; all files have the length 0; no fuse."

    static void promise1_newObject_isANewDisk() {
        ThreeModeJournal x = new ThreeModeJournal();
        due("writes", x.writes(), 0);
        due("room", x.room(), 24);
        due("head", x.head(), 0);
        due("free", x.free(), 16);
        due("need", x.need(), 0);
        due("dirty", x.dirty(), 0);
        for (int b = 0; b <= 22; b++) {
            dueHome(x, b, 0, 0, 0, 0);
        }
    }

    static void promise1_newObject_isUp() {
        due("mount", new ThreeModeJournal().mount(FULL), NONE);
        due("crash", new ThreeModeJournal().crash(), true);
        due("write", new ThreeModeJournal().write(0, 0, 1), true);
    }

    static void promise1_newObject_isInOrderedMode() {
        ThreeModeJournal x = new ThreeModeJournal();
        due("mode", x.mode(), ORDERED);
        x.write(0, 0, 1);
        due("commit", x.commit(), 4);
        due("home", x.home(7, 0), 1);
    }

    static void promise1_newObject_allFilesHaveTheLength0() {
        ThreeModeJournal x = new ThreeModeJournal();
        for (int f = 0; f <= 5; f++) {
            due("length of file " + f, x.length(f), 0);
        }
    }

    static void promise1_newObject_hasNoFuse() {
        ThreeModeJournal x = new ThreeModeJournal();
        for (int i = 0; i < 100; i++) {
            x.write(0, 0, i);
            due("sync", x.sync(0), true);
        }
    }

    static void promise1_twoNewObjects_shareNothing() {
        ThreeModeJournal x = new ThreeModeJournal();
        ThreeModeJournal y = new ThreeModeJournal();
        grow(x, 0, 9);
        settle(x);
        x.fuse(0);
        due("length", y.length(0), 0);
        due("writes", y.writes(), 0);
        due("free", y.free(), 16);
        due("home", y.home(0, 0), 0);
        y.write(0, 0, 1);
        due("commit", y.commit(), 4);
    }

    // Promise 2. "Word o of file f becomes v (also if it was v): the word is set in its data block"

    static void promise2_theWordWasVAlready_itIsSetAllTheSame() {
        for (int mode : MODES) {
            ThreeModeJournal x = in(mode);
            x.write(0, 0, 5);
            settle(x);
            due("write", x.write(0, 0, 5), true);
            due("dirty in mode " + mode, x.dirty(), mode == FULL ? 0 : 1);
            due("need in mode " + mode, x.need(), mode == FULL ? 3 : 0);
        }
    }

    static void promise2_theWordIs0Already_itIsSetAllTheSame() {
        ThreeModeJournal x = new ThreeModeJournal();
        due("write of 0 into a new word", x.write(0, 0, 0), true);
        due("length", x.length(0), 1);
        due("dirty", x.dirty(), 1);
    }

    static void promise2_theLeastAndTheLargestWord() {
        ThreeModeJournal x = new ThreeModeJournal();
        due("write", x.write(0, 0, Integer.MIN_VALUE), true);
        due("write", x.write(0, 1, Integer.MAX_VALUE), true);
        due("read", x.read(0, 0), Integer.MIN_VALUE);
        due("read", x.read(0, 1), Integer.MAX_VALUE);
    }

    // "(the inode is joined only if it grows)"

    static void promise2_theFileDoesNotGrow_theInodeIsNotJoined() {
        ThreeModeJournal x = new ThreeModeJournal();
        grow(x, 0, 24);
        settle(x);
        for (int o = 0; o <= 23; o++) {
            due("write at " + o, x.write(0, o, o), true);
            due("need", x.need(), 0);
        }
        due("length", x.length(0), 24);
    }

    static void promise2_theFileGrows_theInodeIsJoined() {
        ThreeModeJournal x = new ThreeModeJournal();
        for (int o = 0; o <= 23; o++) {
            grow(x, 0, o);
            settle(x);
            due("write at " + o, x.write(0, o, 1), true);
            due("need at " + o, x.need(), o % 4 != 0 ? 3 : o < 8 ? 4 : 5);
        }
    }

    // "When o is the length, the file grows by that word"

    static void promise2_oIsTheLength0_theFileGrowsTo1() {
        ThreeModeJournal x = new ThreeModeJournal();
        due("write", x.write(0, 0, 5), true);
        due("length", x.length(0), 1);
        due("read", x.read(0, 0), 5);
    }

    static void promise2_oIsTheLength23_theFileGrowsTo24() {
        ThreeModeJournal x = new ThreeModeJournal();
        grow(x, 0, 23);
        due("write", x.write(0, 23, 5), true);
        due("length", x.length(0), 24);
        due("read", x.read(0, 23), 5);
    }

    static void promise2_oIsOneLessThanTheLength_theLengthStays() {
        int[] lengths = {1, 4, 5, 8, 9, 24};
        for (int length : lengths) {
            ThreeModeJournal x = new ThreeModeJournal();
            grow(x, 0, length);
            due("write", x.write(0, length - 1, 5), true);
            due("length", x.length(0), length);
            due("read", x.read(0, length - 1), 5);
        }
    }

    // "if o is a multiple of 4, blocks are taken before: if o is 8, first the index, then in any case the data block"

    static void promise2_growingAtAMultipleOf4_takesOneBlockOrAt8Two() {
        ThreeModeJournal x = new ThreeModeJournal();
        for (int o = 0; o <= 23; o++) {
            int before = x.free();
            due("write at " + o, x.write(0, o, 1), true);
            due("blocks taken at " + o, before - x.free(), o == 8 ? 2 : o % 4 == 0 ? 1 : 0);
        }
    }

    static void promise2_settingAtAMultipleOf4_takesNoBlock() {
        ThreeModeJournal x = new ThreeModeJournal();
        grow(x, 0, 24);
        for (int o = 0; o <= 20; o += 4) {
            due("write at " + o, x.write(0, o, 1), true);
            due("free", x.free(), 9);
        }
    }

    static void promise2_growingAt8_takesTheIndexFirst() {
        ThreeModeJournal x = new ThreeModeJournal();
        grow(x, 0, 9);
        settle(x);
        due("index", x.home(0, 3), 9);
        due("data block 2", x.home(9, 0), 10);
    }

    // "when the data block is one of 2 .. 5, its number is put into the index, and the index is joined"

    static void promise2_dataBlocks0And1_areInTheInodeAndJoinNoIndex() {
        ThreeModeJournal x = new ThreeModeJournal();
        x.write(0, 0, 1);
        due("need of inode and map", x.need(), 4);
        grow(x, 0, 4);
        x.commit();
        x.write(0, 4, 1);
        due("need of inode and map", x.need(), 4);
        settle(x);
        dueHome(x, 0, 5, 7, 8, 0);
    }

    static void promise2_dataBlocks2To5_areInTheIndexAndJoinIt() {
        for (int i = 2; i <= 5; i++) {
            ThreeModeJournal x = new ThreeModeJournal();
            grow(x, 0, 4 * i);
            settle(x);
            x.write(0, 4 * i, 1);
            due("need of inode, map and index", x.need(), 5);
            settle(x);
            due("data block " + i, x.home(9, i - 2), 8 + i);
        }
    }

    static void promise2_growingInsideADataBlockBehind8_doesNotJoinTheIndex() {
        ThreeModeJournal x = new ThreeModeJournal();
        grow(x, 0, 9);
        settle(x);
        x.write(0, 9, 1);
        due("need of the inode", x.need(), 3);
    }

    // "Refused (false) when down, when f is not 0 .. 5"

    static void promise2_whenDown_isRefused() {
        dueRefusedWhenDown("write(0, 0, 1)", x -> truth(x.write(0, 0, 1)), 0);
    }

    static void promise2_fIsNot0To5_isRefused() {
        for (int f : NO_FILES) {
            dueRefusedWhenUp("write(" + f + ", 0, 1)", x -> truth(x.write(f, 0, 1)), 0);
        }
    }

    static void promise2_fIs0Or5_isNotRefused() {
        ThreeModeJournal x = new ThreeModeJournal();
        due("write", x.write(0, 0, 1), true);
        due("write", x.write(5, 0, 2), true);
        due("read", x.read(0, 0), 1);
        due("read", x.read(5, 0), 2);
    }

    // "when o is not 0 .. 23 or is more than the length"

    static void promise2_oIsLessThan0_isRefused() {
        int[] offsets = {-1, -4, -24, Integer.MIN_VALUE};
        for (int o : offsets) {
            dueRefusedWhenUp("write(0, " + o + ", 1)", x -> truth(x.write(0, o, 1)), 0);
        }
    }

    private static ThreeModeJournal fullFile() {
        ThreeModeJournal x = new ThreeModeJournal();
        grow(x, 0, 24);
        return x;
    }

    static void promise2_oIs24AndSoIsTheLength_isRefused() {
        dueRefused("write(0, 24, 1)", PromiseEdgeTest::fullFile, x -> truth(x.write(0, 24, 1)), 0);
    }

    static void promise2_oIsMoreThan24_isRefused() {
        int[] offsets = {25, 96, Integer.MAX_VALUE};
        for (int o : offsets) {
            dueRefused("write(0, " + o + ", 1)", PromiseEdgeTest::fullFile, x -> truth(x.write(0, o, 1)), 0);
        }
    }

    static void promise2_oIsOneMoreThanTheLength_isRefused() {
        int[] files = {0, 1, 2, 3};
        int[] lengths = {8, 5, 1, 0};
        for (int i = 0; i < 4; i++) {
            int f = files[i];
            int o = lengths[i] + 1;
            dueRefusedWhenUp("write(" + f + ", " + o + ", 1)", x -> truth(x.write(f, o, 1)), 0);
        }
    }

    static void promise2_oIs23AndMoreThanTheLength_isRefused() {
        dueRefusedWhenUp("write(0, 23, 1)", x -> truth(x.write(0, 23, 1)), 0);
    }

    // "and when fewer blocks can be taken than it takes; otherwise true"

    /** As many blocks can be taken; file 1 has the length 4, file 2 the length 8, file 3 the length 1. */
    private static ThreeModeJournal withBlocksLeft(int n) {
        ThreeModeJournal x = new ThreeModeJournal();
        grow(x, 0, 24);
        grow(x, 1, 4);
        grow(x, 2, 8);
        grow(x, 3, 1);
        int[] lengthsOfFile4 = {12, 8, 8};
        int[] lengthsOfFile5 = {4, 8, 4};
        grow(x, 4, lengthsOfFile4[n]);
        grow(x, 5, lengthsOfFile5[n]);
        x.commit();
        due("free", x.free(), n);
        return x;
    }

    static void promise2_takesNoneAndNoneIsLeft_isNotRefused() {
        ThreeModeJournal x = withBlocksLeft(0);
        due("write that sets a word", x.write(2, 7, 1), true);
        due("write that grows inside a block", x.write(3, 1, 1), true);
    }

    static void promise2_takesOneAndNoneIsLeft_isRefused() {
        dueRefused("write(1, 4, 1)", () -> withBlocksLeft(0), x -> truth(x.write(1, 4, 1)), 0);
    }

    static void promise2_takesOneAndOneIsLeft_isNotRefused() {
        ThreeModeJournal x = withBlocksLeft(1);
        due("write", x.write(1, 4, 1), true);
        due("free", x.free(), 0);
        settle(x);
        dueHome(x, 22, 1, 0, 0, 0);
    }

    static void promise2_takesTwoAndNoneIsLeft_isRefused() {
        dueRefused("write(2, 8, 1)", () -> withBlocksLeft(0), x -> truth(x.write(2, 8, 1)), 0);
    }

    static void promise2_takesTwoAndOneIsLeft_isRefused() {
        dueRefused("write(2, 8, 1)", () -> withBlocksLeft(1), x -> truth(x.write(2, 8, 1)), 0);
    }

    static void promise2_takesTwoAndTwoAreLeft_isNotRefused() {
        ThreeModeJournal x = withBlocksLeft(2);
        due("write", x.write(2, 8, 1), true);
        due("free", x.free(), 0);
        settle(x);
        dueHome(x, 21, 22, 0, 0, 0);
        dueHome(x, 22, 1, 0, 0, 0);
    }

    static void promise2_takesOneAndTheOneFreedWasInUseAtTheCommit_isRefused() {
        Maker maker = () -> {
            ThreeModeJournal x = withBlocksLeft(0);
            x.cut(0, 20);
            return x;
        };
        dueRefused("write(1, 4, 1)", maker, x -> truth(x.write(1, 4, 1)), 0);
    }

    // Promise 3. "The length of file f becomes n: the inode is joined; the data blocks that it does not have any more
    // are freed, then the index, if it does not have that any more"

    static void promise3_nIsOneLessThanTheLength() {
        for (int length = 1; length <= 24; length++) {
            ThreeModeJournal x = new ThreeModeJournal();
            grow(x, 0, length);
            due("cut", x.cut(0, length - 1), true);
            due("length", x.length(0), length - 1);
            due("read of the last word", x.read(0, length - 2), length > 1 ? wordOf(0, length - 2) : 0);
            due("read behind it", x.read(0, length - 1), 0);
        }
    }

    static void promise3_nIs0_allBlocksAreFreed() {
        int[] lengths = {1, 4, 5, 8, 9, 12, 13, 24};
        for (int length : lengths) {
            ThreeModeJournal x = new ThreeModeJournal();
            grow(x, 0, length);
            due("cut", x.cut(0, 0), true);
            due("length", x.length(0), 0);
            due("free", x.free(), 16);
            settle(x);
            dueHome(x, 0, 0, 0, 0, 0);
            dueHome(x, 6, 0, 0, 0, 0);
        }
    }

    static void promise3_noBlockIsFreed_onlyTheInodeIsJoined() {
        int[] lengths = {4, 8, 12, 24};
        for (int length : lengths) {
            ThreeModeJournal x = new ThreeModeJournal();
            grow(x, 0, length);
            settle(x);
            due("cut", x.cut(0, length - 3), true);
            due("need of the inode", x.need(), 3);
            due("dirty", x.dirty(), 0);
        }
    }

    static void promise3_from5To4_oneDataBlockIsFreed() {
        ThreeModeJournal x = new ThreeModeJournal();
        grow(x, 0, 5);
        settle(x);
        x.cut(0, 4);
        due("need of inode and map", x.need(), 4);
        settle(x);
        dueHome(x, 0, 4, 7, 0, 0);
        dueHome(x, 6, 1, 0, 0, 0);
    }

    static void promise3_from9To8_theIndexIsFreed() {
        ThreeModeJournal x = new ThreeModeJournal();
        grow(x, 0, 9);
        settle(x);
        x.cut(0, 8);
        due("need of inode and map", x.need(), 4);
        settle(x);
        due("free", x.free(), 14);
        dueHome(x, 0, 8, 7, 8, 0);
        dueHome(x, 6, 3, 0, 0, 0);
    }

    static void promise3_from10To9_theIndexIsKept() {
        ThreeModeJournal x = new ThreeModeJournal();
        grow(x, 0, 10);
        settle(x);
        x.cut(0, 9);
        settle(x);
        due("free", x.free(), 12);
        dueHome(x, 0, 9, 7, 8, 9);
        dueHome(x, 9, 10, 0, 0, 0);
    }

    // "if it keeps the index, and a data block of 2 .. 5 is freed, the index is joined"

    static void promise3_keepsTheIndexAndABlockOf2To5IsFreed_theIndexIsJoined() {
        int[] from = {13, 17, 21, 24};
        int[] to = {12, 16, 20, 9};
        for (int i = 0; i < 4; i++) {
            ThreeModeJournal x = new ThreeModeJournal();
            grow(x, 0, from[i]);
            settle(x);
            x.cut(0, to[i]);
            due("need of inode, map and index from " + from[i], x.need(), 5);
            settle(x);
            dueHome(x, 9, 10, to[i] > 12 ? 11 : 0, to[i] > 16 ? 12 : 0, 0);
        }
    }

    static void promise3_keepsTheIndexAndNoBlockIsFreed_theIndexIsNotJoined() {
        int[] from = {12, 16, 20, 24};
        for (int length : from) {
            ThreeModeJournal x = new ThreeModeJournal();
            grow(x, 0, length);
            settle(x);
            x.cut(0, length - 3);
            due("need of the inode, from " + length, x.need(), 3);
        }
    }

    static void promise3_losesTheIndex_theIndexIsNotJoined() {
        int[] from = {9, 13, 24};
        for (int length : from) {
            ThreeModeJournal x = new ThreeModeJournal();
            grow(x, 0, length);
            settle(x);
            x.cut(0, 8);
            due("need of inode and map, from " + length, x.need(), 4);
        }
    }

    // "Refused (false) when down, when f is not 0 .. 5, when n is less than 0 or not less than the length"

    static void promise3_whenDown_isRefused() {
        dueRefusedWhenDown("cut(0, 0)", x -> truth(x.cut(0, 0)), 0);
    }

    static void promise3_fIsNot0To5_isRefused() {
        for (int f : NO_FILES) {
            dueRefusedWhenUp("cut(" + f + ", 0)", x -> truth(x.cut(f, 0)), 0);
        }
    }

    static void promise3_fIs0Or5_isNotRefused() {
        ThreeModeJournal x = new ThreeModeJournal();
        grow(x, 0, 2);
        grow(x, 5, 2);
        due("cut", x.cut(0, 0), true);
        due("cut", x.cut(5, 1), true);
        due("length", x.length(0), 0);
        due("length", x.length(5), 1);
    }

    static void promise3_nIsLessThan0_isRefused() {
        int[] lengths = {-1, -24, Integer.MIN_VALUE};
        for (int n : lengths) {
            dueRefusedWhenUp("cut(0, " + n + ")", x -> truth(x.cut(0, n)), 0);
        }
    }

    static void promise3_nIsTheLength_isRefused() {
        dueRefusedWhenUp("cut(0, 8)", x -> truth(x.cut(0, 8)), 0);
        dueRefusedWhenUp("cut(1, 5)", x -> truth(x.cut(1, 5)), 0);
        dueRefused("cut(0, 24)", PromiseEdgeTest::fullFile, x -> truth(x.cut(0, 24)), 0);
    }

    static void promise3_nIsMoreThanTheLength_isRefused() {
        int[] lengths = {9, 24, 25, Integer.MAX_VALUE};
        for (int n : lengths) {
            dueRefusedWhenUp("cut(0, " + n + ")", x -> truth(x.cut(0, n)), 0);
        }
    }

    static void promise3_theFileIsEmpty_isRefused() {
        dueRefusedWhenUp("cut(3, 0)", x -> truth(x.cut(3, 0)), 0);
    }

    // Promise 4. "All blocks that file g has are freed, as in cut"

    static void promise4_gHasAnIndex_allItsBlocksAreFreed() {
        ThreeModeJournal x = new ThreeModeJournal();
        grow(x, 0, 24);
        grow(x, 1, 1);
        due("rename", x.rename(1, 0), true);
        due("free", x.free(), 15);
        due("dirty", x.dirty(), 1);
        settle(x);
        dueHome(x, 0, 1, 14, 0, 0);
        dueHome(x, 6, 0x80, 0, 0, 0);
    }

    static void promise4_gHasAnIndexWithALiveCopy_itIsRevoked() {
        for (int mode : MODES) {
            ThreeModeJournal x = in(mode);
            grow(x, 0, 9);
            x.commit();
            x.rename(1, 0);
            due("need of two inodes, the map and in mode " + mode + " the revoked", x.need(), mode == FULL ? 5 : 6);
        }
    }

    static void promise4_gHasJoinedBlocks_theyAreNotJoinedAnyMore() {
        ThreeModeJournal x = in(FULL);
        grow(x, 0, 9);
        due("need of inode, map, index, three data blocks", x.need(), 9);
        x.rename(1, 0);
        due("need of two inodes and the map", x.need(), 5);
    }

    static void promise4_gIsEmpty_nothingIsFreedAndTheMapIsNotJoined() {
        ThreeModeJournal x = new ThreeModeJournal();
        grow(x, 0, 9);
        settle(x);
        due("rename", x.rename(0, 1), true);
        due("need of two inodes", x.need(), 4);
        due("free", x.free(), 12);
    }

    // "then the words of f's inode become the words of g's inode, and those of f's inode 0; both inodes are joined"

    static void promise4_fIsFull_gIsWhatFWas() {
        for (int mode : MODES) {
            ThreeModeJournal x = in(mode);
            grow(x, 5, 24);
            due("rename", x.rename(5, 0), true);
            due("length", x.length(0), 24);
            due("length", x.length(5), 0);
            for (int o = 0; o <= 23; o++) {
                due("read", x.read(0, o), wordOf(5, o));
            }
            settle(x);
            dueHome(x, 0, 24, 7, 8, 9);
            dueHome(x, 5, 0, 0, 0, 0);
            dueHome(x, 9, 10, 11, 12, 13);
        }
    }

    static void promise4_fHasDirtyBlocks_theyStayDirtyInTheirOrder() {
        ThreeModeJournal x = in(WRITEBACK);
        grow(x, 0, 1);
        grow(x, 1, 1);
        x.rename(0, 2);
        due("dirty", x.dirty(), 2);
        x.flush(1);
        due("first", x.home(7, 0), wordOf(0, 0));
        due("second", x.home(8, 0), 0);
    }

    // "(So g is what f was, also if that is empty, and f is empty.)"

    static void promise4_fIsEmpty_gIsEmptyToo() {
        ThreeModeJournal x = new ThreeModeJournal();
        grow(x, 0, 9);
        settle(x);
        due("rename", x.rename(1, 0), true);
        due("length", x.length(0), 0);
        due("length", x.length(1), 0);
        due("need of two inodes and the map", x.need(), 5);
        settle(x);
        due("free", x.free(), 16);
        dueHome(x, 0, 0, 0, 0, 0);
        dueHome(x, 6, 0, 0, 0, 0);
    }

    static void promise4_bothAreEmpty_bothInodesAreJoined() {
        ThreeModeJournal x = new ThreeModeJournal();
        due("rename", x.rename(0, 5), true);
        due("need of two inodes", x.need(), 4);
        due("rename", x.rename(5, 0), true);
        due("need of the same two", x.need(), 4);
    }

    // "Refused (false) when down, when f or g is not 0 .. 5, or when they are the same"

    static void promise4_whenDown_isRefused() {
        dueRefusedWhenDown("rename(0, 1)", x -> truth(x.rename(0, 1)), 0);
    }

    static void promise4_fIsNot0To5_isRefused() {
        for (int f : NO_FILES) {
            dueRefusedWhenUp("rename(" + f + ", 0)", x -> truth(x.rename(f, 0)), 0);
        }
    }

    static void promise4_gIsNot0To5_isRefused() {
        for (int g : NO_FILES) {
            dueRefusedWhenUp("rename(0, " + g + ")", x -> truth(x.rename(0, g)), 0);
        }
    }

    static void promise4_fAndGAreTheSame_isRefused() {
        for (int file = 0; file <= 5; file++) {
            int f = file;
            dueRefusedWhenUp("rename(" + f + ", " + f + ")", x -> truth(x.rename(f, f)), 0);
        }
    }

    static void promise4_fAndGAreTheSameAndNoFile_isRefused() {
        dueRefusedWhenUp("rename(6, 6)", x -> truth(x.rename(6, 6)), 0);
        dueRefusedWhenUp("rename(-1, -1)", x -> truth(x.rename(-1, -1)), 0);
    }

    // Promise 5. "The present word o of file f (written to the disk or not)"

    static void promise5_theWordIsNotWrittenToTheDisk_itIsRead() {
        for (int mode : MODES) {
            ThreeModeJournal x = in(mode);
            grow(x, 0, 24);
            settle(x);
            for (int o = 0; o <= 23; o += 4) {
                x.write(0, o, -o - 1);
            }
            for (int o = 0; o <= 23; o++) {
                due("read at " + o, x.read(0, o), o % 4 == 0 ? -o - 1 : wordOf(0, o));
            }
            due("home", x.home(7, 0), wordOf(0, 0));
        }
    }

    static void promise5_theWordIsWrittenToTheDisk_itIsRead() {
        for (int mode : MODES) {
            ThreeModeJournal x = in(mode);
            grow(x, 0, 24);
            settle(x);
            for (int o = 0; o <= 23; o++) {
                due("read at " + o, x.read(0, o), wordOf(0, o));
            }
        }
    }

    // "0 when down, when f is not 0 .. 5, or when o is not 0 .. length - 1"

    static void promise5_whenDown_is0() {
        dueRefusedWhenDown("read(0, 0)", x -> x.read(0, 0), 0);
    }

    static void promise5_fIsNot0To5_is0() {
        for (int f : NO_FILES) {
            dueRefusedWhenUp("read(" + f + ", 0)", x -> x.read(f, 0), 0);
        }
    }

    static void promise5_oIsLessThan0_is0() {
        int[] offsets = {-1, -4, Integer.MIN_VALUE};
        for (int o : offsets) {
            dueRefusedWhenUp("read(1, " + o + ")", x -> x.read(1, o), 0);
        }
    }

    static void promise5_oIsOneLessThanTheLength_isTheLastWord() {
        for (int length = 1; length <= 24; length++) {
            ThreeModeJournal x = new ThreeModeJournal();
            grow(x, 0, length);
            due("read", x.read(0, length - 1), wordOf(0, length - 1));
        }
    }

    static void promise5_oIsTheLength_is0ThoughTheBlockHasAWordThere() {
        for (int length = 0; length <= 23; length++) {
            ThreeModeJournal x = fullFile();
            x.cut(0, length);
            due("read", x.read(0, length), 0);
        }
    }

    static void promise5_oIsMoreThanTheLength_is0() {
        ThreeModeJournal x = fullFile();
        int[] offsets = {24, 25, 96, Integer.MAX_VALUE};
        for (int o : offsets) {
            due("read at " + o, x.read(0, o), 0);
        }
        x.cut(0, 1);
        due("read", x.read(0, 2), 0);
        due("read", x.read(0, 23), 0);
    }

    static void promise5_theFileIsEmpty_is0() {
        ThreeModeJournal x = new ThreeModeJournal();
        due("read", x.read(0, 0), 0);
        grow(x, 0, 9);
        x.cut(0, 0);
        due("read", x.read(0, 0), 0);
        due("read", x.read(0, 8), 0);
    }

    // Promise 6. "The present length of file f; NONE when down or when f is not 0 .. 5."

    static void promise6_theFileIsEmpty_is0() {
        ThreeModeJournal x = new ThreeModeJournal();
        due("length", x.length(5), 0);
        grow(x, 5, 1);
        x.cut(5, 0);
        due("length", x.length(5), 0);
    }

    static void promise6_theFileIsFull_is24() {
        due("length", fullFile().length(0), 24);
    }

    static void promise6_whatIsNotCommitted_counts() {
        ThreeModeJournal x = new ThreeModeJournal();
        grow(x, 0, 3);
        x.commit();
        grow(x, 0, 5);
        due("length", x.length(0), 5);
        due("home", x.home(0, 0), 0);
    }

    static void promise6_whenDown_isNone() {
        for (int f = 0; f <= 5; f++) {
            due("length", down().length(f), NONE);
        }
        due("length of no file", down().length(6), NONE);
    }

    static void promise6_fIsNot0To5_isNone() {
        for (int f : NO_FILES) {
            dueRefusedWhenUp("length(" + f + ")", x -> x.length(f), NONE);
        }
    }

    // Promise 7. "Answers how many log blocks the transaction took, 0 when nothing was joined (dirty blocks may have
    // been written home all the same)"

    static void promise7_theSmallestTransaction_takes3() {
        ThreeModeJournal x = new ThreeModeJournal();
        grow(x, 0, 1);
        x.commit();
        grow(x, 0, 2);
        due("commit", x.commit(), 3);
    }

    static void promise7_dirtyBlocksAndTheCheckpoint_areNotCounted() {
        ThreeModeJournal x = almostFullLog();
        grow(x, 0, 8);
        due("commit", x.commit(), 3);
        due("writes of the dirty block, the header and the log blocks", x.writes(), 35);
    }

    static void promise7_nothingJoinedInOrderedMode_dirtyBlocksAreWrittenAndTheAnswerIs0() {
        ThreeModeJournal x = new ThreeModeJournal();
        grow(x, 0, 8);
        settle(x);
        int before = x.writes();
        x.write(0, 0, 1);
        x.write(0, 4, 2);
        due("commit", x.commit(), 0);
        due("writes", x.writes(), before + 2);
        due("dirty", x.dirty(), 0);
        due("room", x.room(), 24);
        due("home", x.home(8, 0), 2);
    }

    static void promise7_nothingJoinedInWritebackMode_nothingIsWrittenAndTheAnswerIs0() {
        ThreeModeJournal x = in(WRITEBACK);
        grow(x, 0, 8);
        settle(x);
        int before = x.writes();
        x.write(0, 0, 1);
        due("commit", x.commit(), 0);
        due("writes", x.writes(), before);
        due("dirty", x.dirty(), 1);
    }

    static void promise7_nothingWasChanged_is0() {
        for (int mode : MODES) {
            ThreeModeJournal x = in(mode);
            due("commit", x.commit(), 0);
            grow(x, 0, 1);
            due("commit", x.commit(), mode == FULL ? 5 : 4);
            due("commit again", x.commit(), 0);
        }
    }

    // "NONE when down; FAILED when the power failed in it."

    static void promise7_whenDown_isNone() {
        dueRefusedWhenDown("commit()", x -> x.commit(), NONE);
    }

    static void promise7_powerFailsAtADirtyBlock_isFailed() {
        ThreeModeJournal x = new ThreeModeJournal();
        grow(x, 0, 8);
        settle(x);
        x.write(0, 0, 1);
        x.fuse(0);
        due("commit with nothing joined", x.commit(), FAILED);
        due("mode", x.mode(), NONE);
    }

    static void promise7_powerFailsAtAnyWrite_isFailed() {
        for (int k = 0; k <= 5; k++) {
            ThreeModeJournal x = new ThreeModeJournal();
            grow(x, 0, 1);
            x.fuse(k);
            due("commit with fuse " + k, x.commit(), k < 5 ? FAILED : 4);
            due("mode", x.mode(), k < 5 ? NONE : ORDERED);
            due("writes", x.writes(), k);
        }
    }

    static void promise7_powerFailsInTheCheckpoint_isFailed() {
        ThreeModeJournal x = almostFullLog();
        grow(x, 0, 8);
        x.fuse(1);
        due("commit", x.commit(), FAILED);
        due("mode", x.mode(), NONE);
        due("writes of the dirty block", x.writes(), 31);
    }

    // Promise 8. "In WRITEBACK mode first writes home the dirty blocks of file f, in the order in which they became dirty"

    private static ThreeModeJournal dirtyBlocksOfTwoFiles() {
        ThreeModeJournal x = in(WRITEBACK);
        grow(x, 0, 8);
        grow(x, 1, 8);
        settle(x);
        x.write(0, 4, 1);
        x.write(1, 4, 2);
        x.write(0, 0, 3);
        x.write(1, 0, 4);
        return x;
    }

    static void promise8_inWritebackMode_blocksOfOtherFilesStayDirty() {
        ThreeModeJournal x = dirtyBlocksOfTwoFiles();
        due("sync", x.sync(1), true);
        due("dirty", x.dirty(), 2);
        due("home", x.home(10, 0), 2);
        due("home", x.home(9, 0), 4);
        due("home", x.home(8, 0), wordOf(0, 4));
        due("home", x.home(7, 0), wordOf(0, 0));
        x.flush(1);
        due("the others are in their order", x.home(8, 0), 1);
        due("the others are in their order", x.home(7, 0), wordOf(0, 0));
    }

    static void promise8_inWritebackMode_blocksGoInTheirOrder() {
        ThreeModeJournal x = dirtyBlocksOfTwoFiles();
        x.fuse(1);
        due("sync", x.sync(1), false);
        due("first", x.home(10, 0), 2);
        due("second", x.home(9, 0), wordOf(1, 0));
    }

    static void promise8_inWritebackMode_blocksGoBeforeTheLog() {
        ThreeModeJournal x = dirtyBlocksOfTwoFiles();
        x.cut(0, 7);
        int before = x.writes();
        x.fuse(2);
        due("sync", x.sync(1), false);
        due("writes", x.writes(), before + 2);
        due("home", x.home(10, 0), 2);
        due("home", x.home(9, 0), 4);
        due("mount", x.mount(WRITEBACK), 0);
    }

    static void promise8_inWritebackMode_blocksBehindTheIndexGoToo() {
        ThreeModeJournal x = in(WRITEBACK);
        grow(x, 0, 24);
        due("dirty", x.dirty(), 6);
        due("sync", x.sync(0), true);
        due("dirty", x.dirty(), 0);
        due("writes of six blocks and five log blocks", x.writes(), 11);
        dueHome(x, 13, wordOf(0, 20), wordOf(0, 21), wordOf(0, 22), wordOf(0, 23));
    }

    static void promise8_inWritebackMode_blocksThatTheFileGotByRenameGoToo() {
        ThreeModeJournal x = in(WRITEBACK);
        grow(x, 0, 1);
        x.rename(0, 1);
        due("sync of the empty file", x.sync(0), true);
        due("dirty", x.dirty(), 1);
        due("sync", x.sync(1), true);
        due("dirty", x.dirty(), 0);
    }

    // "then, in every mode, COMMIT (of all files)"

    static void promise8_ofAnEmptyFile_commitsTheOthers() {
        for (int mode : MODES) {
            ThreeModeJournal x = in(mode);
            grow(x, 0, 1);
            due("sync", x.sync(5), true);
            due("need", x.need(), 0);
            due("dirty", x.dirty(), mode == WRITEBACK ? 1 : 0);
            x.crash();
            due("mount", x.mount(mode), 1);
            due("length", x.length(0), 1);
        }
    }

    static void promise8_inOrderedMode_dirtyBlocksOfAllFilesGoInTheirOrder() {
        ThreeModeJournal x = new ThreeModeJournal();
        grow(x, 0, 1);
        grow(x, 1, 1);
        x.fuse(1);
        due("sync", x.sync(1), false);
        due("first", x.home(7, 0), wordOf(0, 0));
        due("second", x.home(8, 0), 0);
    }

    static void promise8_withNothingToDo_isTrueAndWritesNothing() {
        for (int mode : MODES) {
            ThreeModeJournal x = in(mode);
            due("sync", x.sync(0), true);
            due("writes", x.writes(), 0);
        }
    }

    // "False when down or when f is not 0 .. 5 (nothing changes then), and when the power failed in it; otherwise true."

    static void promise8_whenDown_isFalse() {
        dueRefusedWhenDown("sync(0)", x -> truth(x.sync(0)), 0);
    }

    static void promise8_fIsNot0To5_isFalse() {
        for (int f : NO_FILES) {
            dueRefusedWhenUp("sync(" + f + ")", x -> truth(x.sync(f)), 0);
        }
    }

    static void promise8_fIs0Or5_isTrue() {
        ThreeModeJournal x = in(WRITEBACK);
        grow(x, 0, 1);
        grow(x, 5, 1);
        due("sync", x.sync(0), true);
        due("dirty", x.dirty(), 1);
        due("sync", x.sync(5), true);
        due("dirty", x.dirty(), 0);
    }

    static void promise8_powerFailsAtAnyWrite_isFalse() {
        for (int mode : MODES) {
            for (int k = 0; k <= 5; k++) {
                ThreeModeJournal x = in(mode);
                grow(x, 0, 1);
                x.fuse(k);
                due("sync with fuse " + k + " in mode " + mode, x.sync(0), k == 5);
                due("mode", x.mode(), k == 5 ? mode : NONE);
            }
        }
    }

    // Promise 9. "Writes home the n dirty blocks that became dirty first (all, if there are fewer), in that order."

    private static ThreeModeJournal threeDirtyBlocks() {
        ThreeModeJournal x = in(WRITEBACK);
        grow(x, 0, 12);
        settle(x);
        x.write(0, 8, 1);
        x.write(0, 0, 2);
        x.write(0, 4, 3);
        return x;
    }

    private static void dueFlushed(ThreeModeJournal x, int n) {
        due("first", x.home(10, 0), n > 0 ? 1 : wordOf(0, 8));
        due("second", x.home(7, 0), n > 1 ? 2 : wordOf(0, 0));
        due("third", x.home(8, 0), n > 2 ? 3 : wordOf(0, 4));
    }

    static void promise9_nIsUpToTheCount_thatManyAreWritten() {
        for (int n = 1; n <= 3; n++) {
            ThreeModeJournal x = threeDirtyBlocks();
            due("flush", x.flush(n), n);
            due("dirty", x.dirty(), 3 - n);
            dueFlushed(x, n);
        }
    }

    static void promise9_nIsMoreThanTheCount_allAreWritten() {
        int[] counts = {4, 16, Integer.MAX_VALUE};
        for (int n : counts) {
            ThreeModeJournal x = threeDirtyBlocks();
            due("flush", x.flush(n), 3);
            due("dirty", x.dirty(), 0);
            dueFlushed(x, 3);
        }
    }

    static void promise9_nothingIsDirty_is0() {
        for (int mode : MODES) {
            ThreeModeJournal x = in(mode);
            due("flush", x.flush(1), 0);
            due("flush", x.flush(Integer.MAX_VALUE), 0);
            due("writes", x.writes(), 0);
        }
    }

    static void promise9_inFullMode_nothingIsEverDirty() {
        ThreeModeJournal x = in(FULL);
        grow(x, 0, 4);
        due("flush", x.flush(1), 0);
        due("writes", x.writes(), 0);
    }

    static void promise9_theMostThatCanBeDirty_areWrittenInOrder() {
        ThreeModeJournal x = in(WRITEBACK);
        fifteenDirtyBlocks(x);
        due("flush", x.flush(15), 15);
        due("dirty", x.dirty(), 0);
        due("home", x.home(7, 0), wordOf(0, 0));
        due("home", x.home(22, 0), wordOf(5, 16));
    }

    // "Answers how many; NONE when down or when n is less than 1; FAILED when the power failed in it."

    static void promise9_nIsLessThan1_isNone() {
        for (int n : BELOW_1) {
            dueRefusedWhenUp("flush(" + n + ")", x -> x.flush(n), NONE);
        }
    }

    static void promise9_whenDown_isNone() {
        dueRefusedWhenDown("flush(1)", x -> x.flush(1), NONE);
    }

    static void promise9_powerFailsAtAnyWrite_isFailed() {
        for (int k = 0; k <= 3; k++) {
            ThreeModeJournal x = threeDirtyBlocks();
            x.fuse(k);
            due("flush with fuse " + k, x.flush(3), k < 3 ? FAILED : 3);
            due("mode", x.mode(), k < 3 ? NONE : WRITEBACK);
            dueFlushed(x, k);
        }
    }

    static void promise9_theFuseIsJustEnoughForN_isN() {
        ThreeModeJournal x = threeDirtyBlocks();
        x.fuse(2);
        due("flush", x.flush(2), 2);
        due("mode", x.mode(), WRITEBACK);
        due("flush", x.flush(1), FAILED);
    }

    // Promise 10. "CHECKPOINTS the n oldest transactions (all, if there are fewer) together"

    /** Three transactions with an inode each that is live; only the last one's map is. */
    private static ThreeModeJournal threeTransactions() {
        ThreeModeJournal x = new ThreeModeJournal();
        for (int f = 2; f >= 0; f--) {
            grow(x, f, 1);
            due("commit", x.commit(), 4);
        }
        return x;
    }

    private static void dueCheckpointed(ThreeModeJournal x, int n) {
        due("inode 2, of the oldest", x.home(2, 0), n > 0 ? 1 : 0);
        due("inode 1", x.home(1, 0), n > 1 ? 1 : 0);
        due("inode 0", x.home(0, 0), n > 2 ? 1 : 0);
        due("map", x.home(6, 0), n > 2 ? 7 : 0);
        due("room", x.room(), 12 + 4 * n);
        x.crash();
        due("mount", x.mount(ORDERED), 3 - n);
    }

    static void promise10_nIsUpToTheCount_thatManyGo() {
        int[] answers = {0, 2, 3, 5};
        for (int n = 1; n <= 3; n++) {
            ThreeModeJournal x = threeTransactions();
            due("checkpoint", x.checkpoint(n), answers[n]);
            dueCheckpointed(x, n);
        }
    }

    static void promise10_nIsMoreThanTheCount_allGo() {
        int[] counts = {4, 24, Integer.MAX_VALUE};
        for (int n : counts) {
            ThreeModeJournal x = threeTransactions();
            due("checkpoint", x.checkpoint(n), 5);
            dueCheckpointed(x, 3);
        }
    }

    static void promise10_theMostThatTheLogCanHave_go() {
        ThreeModeJournal x = eightTransactions();
        due("checkpoint of the data block and the header", x.checkpoint(8), 2);
        due("room", x.room(), 24);
        due("home", x.home(7, 0), 8);
    }

    /** Eight transactions of three blocks fill the log: each has a copy of one data block. */
    private static ThreeModeJournal eightTransactions() {
        ThreeModeJournal x = in(FULL);
        x.write(0, 0, 0);
        settle(x);
        for (int i = 1; i <= 8; i++) {
            x.write(0, 0, i);
            due("commit", x.commit(), 3);
        }
        due("room", x.room(), 0);
        return x;
    }

    // "nothing is written when the log has none. Answers how many writes were made (the header's, too; 0 when the log
    // has none)"

    static void promise10_theLogHasNone_is0AndNothingIsWritten() {
        ThreeModeJournal x = new ThreeModeJournal();
        grow(x, 0, 1);
        x.fuse(0);
        due("checkpoint", x.checkpoint(1), 0);
        due("checkpoint", x.checkpoint(Integer.MAX_VALUE), 0);
        due("writes", x.writes(), 0);
        due("mode", x.mode(), ORDERED);
    }

    static void promise10_theLogHasNoneAnyMore_is0() {
        ThreeModeJournal x = threeTransactions();
        x.checkpoint(3);
        int before = x.writes();
        due("checkpoint", x.checkpoint(1), 0);
        due("writes", x.writes(), before);
    }

    static void promise10_noCopyIsLive_is1ForTheHeader() {
        ThreeModeJournal x = new ThreeModeJournal();
        commitInodes(x, 2);
        commitInodes(x, 2);
        due("checkpoint", x.checkpoint(1), 1);
    }

    // "NONE when down or when n is less than 1; FAILED when the power failed in it."

    static void promise10_nIsLessThan1_isNone() {
        for (int n : BELOW_1) {
            dueRefusedWhenUp("checkpoint(" + n + ")", x -> x.checkpoint(n), NONE);
        }
    }

    static void promise10_nIsLessThan1AndTheLogHasNone_isNone() {
        for (int n : BELOW_1) {
            due("checkpoint", new ThreeModeJournal().checkpoint(n), NONE);
        }
    }

    static void promise10_whenDown_isNone() {
        dueRefusedWhenDown("checkpoint(1)", x -> x.checkpoint(1), NONE);
    }

    static void promise10_powerFailsAtAnyWrite_isFailed() {
        for (int k = 0; k <= 5; k++) {
            ThreeModeJournal x = threeTransactions();
            x.fuse(k);
            due("checkpoint with fuse " + k, x.checkpoint(3), k < 5 ? FAILED : 5);
            due("mode", x.mode(), k < 5 ? NONE : ORDERED);
            due("inode 2", x.home(2, 0), k > 0 ? 1 : 0);
            due("inode 1", x.home(1, 0), k > 1 ? 1 : 0);
            due("inode 0", x.home(0, 0), k > 2 ? 1 : 0);
            due("map", x.home(6, 0), k > 3 ? 7 : 0);
            x.crash();
            due("mount", x.mount(ORDERED), k < 5 ? 3 : 0);
        }
    }

    // Promise 11. "Up or down: the fuse becomes k (0: the next write is not made)"

    static void promise11_kIs0_theNextWriteIsNotMade() {
        ThreeModeJournal x = threeDirtyBlocks();
        int before = x.writes();
        x.fuse(0);
        due("flush", x.flush(1), FAILED);
        due("writes", x.writes(), before);
    }

    static void promise11_kIs1_oneWriteIsMade() {
        ThreeModeJournal x = threeDirtyBlocks();
        int before = x.writes();
        x.fuse(1);
        due("flush", x.flush(1), 1);
        due("flush", x.flush(1), FAILED);
        due("writes", x.writes(), before + 1);
    }

    static void promise11_kIsTheLargest_everyWriteIsMade() {
        ThreeModeJournal x = threeDirtyBlocks();
        x.fuse(Integer.MAX_VALUE);
        due("flush", x.flush(3), 3);
        due("mode", x.mode(), WRITEBACK);
    }

    static void promise11_setWhenDown_theMountBurnsIt() {
        for (int k = 0; k <= 3; k++) {
            ThreeModeJournal x = down();
            x.fuse(k);
            due("mount with fuse " + k, x.mount(ORDERED), k < 3 ? FAILED : 1);
            due("writes", x.writes(), 5 + k);
        }
    }

    static void promise11_setWhenDownAndNotUsedByTheMount_itStays() {
        ThreeModeJournal x = new ThreeModeJournal();
        x.crash();
        x.fuse(0);
        due("mount of an empty log", x.mount(ORDERED), 0);
        x.write(0, 0, 1);
        due("commit", x.commit(), FAILED);
    }

    static void promise11_setAgain_theLaterCounts() {
        ThreeModeJournal x = threeDirtyBlocks();
        x.fuse(0);
        x.fuse(2);
        due("flush", x.flush(2), 2);
        x.fuse(1);
        due("flush", x.flush(1), 1);
        x.fuse(0);
        x.write(0, 0, 1);
        due("flush", x.flush(1), FAILED);
    }

    // "there is none when k is less than 0. (crash() leaves none, too.)"

    static void promise11_kIsLessThan0_thereIsNone() {
        int[] none = {-1, -2, Integer.MIN_VALUE};
        for (int k : none) {
            ThreeModeJournal x = threeDirtyBlocks();
            x.fuse(0);
            x.fuse(k);
            due("flush", x.flush(3), 3);
            due("mode", x.mode(), WRITEBACK);
        }
    }

    static void promise11_kIsLessThan0WhenDown_thereIsNone() {
        ThreeModeJournal x = down();
        x.fuse(0);
        x.fuse(-1);
        due("mount", x.mount(ORDERED), 1);
    }

    static void promise11_crash_leavesNone() {
        ThreeModeJournal x = threeTransactions();
        x.fuse(0);
        x.crash();
        due("mount", x.mount(ORDERED), 3);
        x.write(0, 0, 1);
        due("commit", x.commit(), 0);
    }

    // Promise 12. "The power fails now: true. False, changing nothing, when down."

    static void promise12_whenUp_isTrueAndTheSystemIsDown() {
        for (int mode : MODES) {
            ThreeModeJournal x = in(mode);
            due("crash", x.crash(), true);
            due("mode", x.mode(), NONE);
            due("write", x.write(0, 0, 1), false);
        }
    }

    static void promise12_whenUp_memoryIsLostAndTheDiskStays() {
        for (int mode : MODES) {
            ThreeModeJournal x = in(mode);
            grow(x, 0, 9);
            settle(x);
            int before = x.writes();
            x.cut(0, 8);
            x.write(0, 0, 1);
            due("crash", x.crash(), true);
            due("writes", x.writes(), before);
            due("home", x.home(7, 0), wordOf(0, 0));
            due("mount", x.mount(mode), 0);
            due("length", x.length(0), 9);
            due("read", x.read(0, 0), wordOf(0, 0));
            due("need", x.need(), 0);
            due("dirty", x.dirty(), 0);
        }
    }

    static void promise12_whenDown_isFalseAndChangesNothing() {
        dueRefusedWhenDown("crash()", x -> truth(x.crash()), 0);
    }

    static void promise12_whenDown_aFuseSetThenStays() {
        ThreeModeJournal x = down();
        x.fuse(2);
        due("crash", x.crash(), false);
        due("mount", x.mount(ORDERED), FAILED);
        due("writes", x.writes(), 7);
    }

    static void promise12_whenThePowerFailedBefore_isFalse() {
        ThreeModeJournal x = threeDirtyBlocks();
        x.fuse(0);
        x.flush(1);
        due("crash", x.crash(), false);
    }

    // Promise 13. "Recovers, and is up in mode m."

    static void promise13_mIs0To2_isUpInThatMode() {
        for (int mode : MODES) {
            ThreeModeJournal x = down();
            due("mount", x.mount(mode), 1);
            due("mode", x.mode(), mode);
            x.write(0, 0, 1);
            due("dirty", x.dirty(), mode == FULL ? 0 : 1);
            due("commit", x.commit(), mode == FULL ? 3 : 0);
            due("dirty", x.dirty(), mode == WRITEBACK ? 1 : 0);
        }
    }

    // "For each transaction in the log, from the oldest on, each of its copies whose block is revoked by no later
    // transaction in the log is written to its home block, in the order of the blocks' numbers"

    static void promise13_copiesThatAreNotLive_areWrittenToo() {
        ThreeModeJournal x = eightTransactions();
        int before = x.writes();
        x.crash();
        due("mount", x.mount(FULL), 8);
        due("writes of eight copies and the header", x.writes(), before + 9);
        due("read", x.read(0, 0), 8);
    }

    static void promise13_theOldestTransaction_isWrittenFirst() {
        for (int k = 0; k <= 9; k++) {
            ThreeModeJournal x = eightTransactions();
            x.crash();
            x.fuse(k);
            due("mount with fuse " + k, x.mount(FULL), k < 9 ? FAILED : 8);
            due("home", x.home(7, 0), Math.min(k, 8));
        }
    }

    static void promise13_copiesOfOneTransaction_areWrittenInTheOrderOfTheirNumbers() {
        for (int k = 0; k <= 3; k++) {
            ThreeModeJournal x = new ThreeModeJournal();
            grow(x, 5, 1);
            grow(x, 2, 1);
            x.commit();
            x.crash();
            x.fuse(k);
            due("mount with fuse " + k, x.mount(ORDERED), FAILED);
            due("inode 2", x.home(2, 0), k > 0 ? 1 : 0);
            due("inode 5", x.home(5, 0), k > 1 ? 1 : 0);
            due("map", x.home(6, 0), k > 2 ? 3 : 0);
        }
    }

    /** Block 9 was an index when it was committed; the block is revoked then, and becomes a data block. */
    private static ThreeModeJournal revokedIndex() {
        ThreeModeJournal x = new ThreeModeJournal();
        grow(x, 0, 9);
        x.commit();
        x.cut(0, 8);
        x.commit();
        grow(x, 1, 1);
        x.commit();
        due("data in what was an index", x.home(9, 0), wordOf(1, 0));
        return x;
    }

    static void promise13_aCopyRevokedByALaterTransaction_isNotWritten() {
        ThreeModeJournal x = revokedIndex();
        int before = x.writes();
        x.crash();
        due("mount", x.mount(ORDERED), 3);
        due("writes of inode and map, three times, and the header", x.writes(), before + 7);
        dueHome(x, 9, wordOf(1, 0), 0, 0, 0);
        due("read", x.read(1, 0), wordOf(1, 0));
    }

    static void promise13_copiesOfSeveralBlocksRevokedTogether_areNotWritten() {
        ThreeModeJournal x = new ThreeModeJournal();
        grow(x, 0, 9);
        grow(x, 1, 9);
        x.commit();
        x.cut(0, 8);
        x.cut(1, 8);
        x.commit();
        int before = x.writes();
        x.crash();
        due("mount", x.mount(ORDERED), 2);
        due("writes of two inodes and the map, twice, and the header", x.writes(), before + 7);
        dueHome(x, 9, 0, 0, 0, 0);
        dueHome(x, 13, 0, 0, 0, 0);
    }

    static void promise13_aCopyLaterThanTheRevoking_isWritten() {
        ThreeModeJournal x = new ThreeModeJournal();
        grow(x, 0, 9);
        x.commit();
        x.cut(0, 8);
        x.commit();
        grow(x, 0, 9);
        x.commit();
        int before = x.writes();
        x.crash();
        due("mount", x.mount(ORDERED), 3);
        due("writes of 2, 2 and 3 copies and the header", x.writes(), before + 8);
        dueHome(x, 9, 10, 0, 0, 0);
    }

    static void promise13_aRevokingThatWasNotCommitted_doesNotCount() {
        ThreeModeJournal x = new ThreeModeJournal();
        grow(x, 0, 9);
        x.commit();
        x.cut(0, 8);
        x.crash();
        int before = x.writes();
        due("mount", x.mount(ORDERED), 1);
        due("writes of inode, map, index and header", x.writes(), before + 4);
        dueHome(x, 9, 10, 0, 0, 0);
        due("length", x.length(0), 9);
    }

    static void promise13_aRevokingWhoseCopiesWereCheckpointed_keepsNothingBack() {
        ThreeModeJournal x = new ThreeModeJournal();
        grow(x, 0, 9);
        x.commit();
        x.cut(0, 8);
        x.commit();
        due("checkpoint of the header alone", x.checkpoint(1), 1);
        int before = x.writes();
        x.crash();
        due("mount", x.mount(ORDERED), 1);
        due("writes of inode, map and header", x.writes(), before + 3);
    }

    // "then, if there was a transaction in the log, the header is written; the log has no transaction any more, the
    // place for the next one stays"

    static void promise13_theLogHasNone_nothingIsWritten() {
        ThreeModeJournal x = threeTransactions();
        x.checkpoint(3);
        int before = x.writes();
        x.crash();
        x.fuse(0);
        due("mount", x.mount(ORDERED), 0);
        due("writes", x.writes(), before);
        due("mode", x.mode(), ORDERED);
    }

    static void promise13_theLogHasNoneAnyMore_theNextMountIs0() {
        ThreeModeJournal x = threeTransactions();
        x.crash();
        due("mount", x.mount(ORDERED), 3);
        due("room", x.room(), 24);
        due("checkpoint", x.checkpoint(1), 0);
        x.crash();
        due("mount", x.mount(ORDERED), 0);
    }

    static void promise13_thePlaceForTheNextOne_stays() {
        ThreeModeJournal x = threeTransactions();
        x.crash();
        x.mount(ORDERED);
        due("head", x.head(), 12);
        x.rename(3, 4);
        due("commit", x.commit(), 4);
        due("head", x.head(), 16);
    }

    // "If the power fails in that, the system is down again, and the log has the same transactions as before."

    static void promise13_powerFailsAtAnyWrite_theLogIsAsBefore() {
        for (int k = 0; k <= 7; k++) {
            ThreeModeJournal x = threeTransactions();
            x.crash();
            x.fuse(k);
            due("mount with fuse " + k, x.mount(FULL), k < 7 ? FAILED : 3);
            due("mode", x.mode(), k < 7 ? NONE : FULL);
            due("writes", x.writes(), 15 + k);
            due("mount again", x.mount(ORDERED), k < 7 ? 3 : NONE);
            due("writes", x.writes(), k < 7 ? 15 + k + 7 : 22);
            due("head", x.head(), 12);
            for (int f = 0; f < 3; f++) {
                due("read", x.read(f, 0), wordOf(f, 0));
            }
        }
    }

    static void promise13_powerFailsAgainAndAgain_theLogIsAsBefore() {
        ThreeModeJournal x = revokedIndex();
        x.crash();
        for (int k = 0; k <= 6; k++) {
            x.fuse(k);
            due("mount with fuse " + k, x.mount(ORDERED), FAILED);
        }
        due("mount", x.mount(ORDERED), 3);
        due("length", x.length(0), 8);
        due("read", x.read(1, 0), wordOf(1, 0));
    }

    // "At the end the present words of all blocks are those of the home blocks; nothing is joined, revoked or dirty."

    static void promise13_presentWords_areThoseOfTheHomeBlocks() {
        for (int mode : MODES) {
            ThreeModeJournal x = in(WRITEBACK);
            grow(x, 0, 8);
            x.flush(1);
            x.commit();
            x.crash();
            due("mount", x.mount(mode), 1);
            due("length", x.length(0), 8);
            due("a word that was written home", x.read(0, 3), wordOf(0, 3));
            due("a word that was not", x.read(0, 4), 0);
            due("free", x.free(), 14);
        }
    }

    static void promise13_afterIt_nothingIsJoinedRevokedOrDirty() {
        for (int mode : MODES) {
            ThreeModeJournal x = busy(mode);
            x.crash();
            due("mount", x.mount(mode), 2);
            due("need", x.need(), 0);
            due("dirty", x.dirty(), 0);
            due("commit", x.commit(), 0);
            x.rename(3, 4);
            due("need of two inodes and nothing revoked", x.need(), 4);
        }
    }

    // "Answers how many transactions the log had; NONE, changing nothing, when it is up or m is not 0 .. 2; FAILED when
    // the power failed in it."

    static void promise13_theLogHad0To8_isThatMany() {
        for (int n = 0; n <= 8; n++) {
            ThreeModeJournal x = eightTransactions();
            x.checkpoint(8 - n);
            x.crash();
            due("mount", x.mount(ORDERED), n);
        }
    }

    static void promise13_whenUp_isNoneAndChangesNothing() {
        for (int m : MODES) {
            dueRefusedWhenUp("mount(" + m + ")", x -> x.mount(m), NONE);
        }
    }

    static void promise13_mIsNot0To2_isNoneAndChangesNothing() {
        int[] modes = {-1, 3, Integer.MIN_VALUE, Integer.MAX_VALUE};
        for (int m : modes) {
            dueRefusedWhenDown("mount(" + m + ")", x -> x.mount(m), NONE);
            dueRefusedWhenUp("mount(" + m + ")", x -> x.mount(m), NONE);
        }
    }

    // Promise 14. "The mode: WRITEBACK, ORDERED or FULL; NONE when down."

    static void promise14_ofEachMode() {
        for (int mode : MODES) {
            due("mode", in(mode).mode(), mode);
        }
    }

    static void promise14_whenDownByACrash_isNone() {
        due("mode", down().mode(), NONE);
    }

    static void promise14_whenDownByAFuse_isNone() {
        ThreeModeJournal x = threeDirtyBlocks();
        x.fuse(0);
        due("mode before", x.mode(), WRITEBACK);
        x.flush(1);
        due("mode", x.mode(), NONE);
    }

    // Promise 15. "Word w of home block b as it is on the disk, up or down; 0 when b is not 0 .. 22 or w is not 0 .. 3."

    /** No word of any block 0 .. 22 that a file can set is 0 at home. */
    private static ThreeModeJournal fullDisk() {
        ThreeModeJournal x = new ThreeModeJournal();
        fillPool(x);
        x.checkpoint(ALL);
        return x;
    }

    static void promise15_theFirstAndTheLastBlockAndWord() {
        ThreeModeJournal x = fullDisk();
        due("home", x.home(0, 0), 24);
        due("home", x.home(0, 3), 9);
        due("home", x.home(22, 0), wordOf(2, 4));
        due("home", x.home(22, 3), wordOf(2, 7));
    }

    static void promise15_whenDown_isTheSame() {
        ThreeModeJournal x = fullDisk();
        x.crash();
        due("home", x.home(0, 0), 24);
        due("home", x.home(22, 3), wordOf(2, 7));
    }

    static void promise15_presentWordsThatAreNotWritten_areNotShown() {
        ThreeModeJournal x = fullDisk();
        x.write(2, 7, 1);
        due("home", x.home(22, 3), wordOf(2, 7));
        x.flush(1);
        due("home", x.home(22, 3), 1);
    }

    static void promise15_bIsNot0To22_is0() {
        ThreeModeJournal x = fullDisk();
        int[] blocks = {-1, 23, 24, Integer.MIN_VALUE, Integer.MAX_VALUE};
        for (int b : blocks) {
            for (int w = -1; w <= 4; w++) {
                due("home(" + b + ", " + w + ")", x.home(b, w), 0);
            }
        }
    }

    static void promise15_wIsNot0To3_is0() {
        ThreeModeJournal x = fullDisk();
        int[] words = {-1, 4, 5, -4, Integer.MIN_VALUE, Integer.MAX_VALUE};
        for (int b = 0; b <= 22; b++) {
            for (int w : words) {
                due("home(" + b + ", " + w + ")", x.home(b, w), 0);
            }
        }
    }

    // Promise 16. "How many log blocks the running transaction needs; NONE when down."

    static void promise16_nothingIsJoined_is0() {
        ThreeModeJournal x = new ThreeModeJournal();
        due("need", x.need(), 0);
        grow(x, 0, 1);
        x.commit();
        due("need", x.need(), 0);
    }

    static void promise16_theSmallestAndTheLargestBelow13() {
        ThreeModeJournal x = eightTransactions();
        x.write(0, 0, 9);
        due("need of one copy", x.need(), 3);
        due("need of eight copies and one revoked", needOfTwelve().need(), 12);
    }

    static void promise16_theNeed_isWhatTheCommitTakes() {
        for (int mode : MODES) {
            ThreeModeJournal x = busy(mode);
            x.fuse(-1);
            int need = x.need();
            due("commit", x.commit(), need);
        }
    }

    static void promise16_whenDown_isNone() {
        due("need", busyDown().need(), NONE);
    }

    // Promise 17. "How many log blocks are free; NONE when down."

    static void promise17_theLogIsEmpty_is24() {
        due("room", new ThreeModeJournal().room(), 24);
    }

    static void promise17_theLogIsFull_is0() {
        due("room", eightTransactions().room(), 0);
    }

    static void promise17_theRunningTransaction_takesNoRoom() {
        ThreeModeJournal x = large();
        due("room", x.room(), 24);
        x.commit();
        due("room", x.room(), 11);
    }

    static void promise17_whenDown_isNone() {
        due("room", busyDown().room(), NONE);
    }

    // Promise 18. "The place in the log from which the next transaction will be written; NONE when down."

    static void promise18_onANewDisk_is0() {
        due("head", new ThreeModeJournal().head(), 0);
    }

    static void promise18_theLastPlace_is23() {
        ThreeModeJournal x = almostFullLog();
        due("head", x.head(), 23);
    }

    static void promise18_behindPlace23_is0() {
        ThreeModeJournal x = new ThreeModeJournal();
        for (int i = 0; i < 6; i++) {
            due("head", x.head(), 4 * i);
            commitInodes(x, 2);
        }
        due("head", x.head(), 0);
    }

    static void promise18_checkpointAndMount_leaveIt() {
        ThreeModeJournal x = threeTransactions();
        x.checkpoint(1);
        due("head", x.head(), 12);
        x.checkpoint(2);
        due("head", x.head(), 12);
        x.crash();
        x.mount(FULL);
        due("head", x.head(), 12);
    }

    static void promise18_whenDown_isNone() {
        due("head", busyDown().head(), NONE);
    }

    // Promise 19. "How many blocks are dirty; NONE when down."

    static void promise19_none_is0() {
        for (int mode : MODES) {
            due("dirty", in(mode).dirty(), 0);
        }
    }

    static void promise19_theMost_is15() {
        fifteenDirtyBlocks(in(WRITEBACK));
    }

    static void promise19_aBlockSetTwice_countsOnce() {
        ThreeModeJournal x = new ThreeModeJournal();
        grow(x, 0, 4);
        due("dirty", x.dirty(), 1);
        x.write(0, 0, 1);
        due("dirty", x.dirty(), 1);
    }

    static void promise19_whenDown_isNone() {
        due("dirty", busyDown().dirty(), NONE);
    }

    // Promise 20. "How many pool blocks can be taken now; NONE when down."

    static void promise20_onANewDisk_is16() {
        due("free", new ThreeModeJournal().free(), 16);
    }

    static void promise20_thePoolIsFull_is0() {
        due("free", fullDisk().free(), 0);
    }

    static void promise20_blocksInUseAtTheLatestCommit_cannotBeTakenNow() {
        ThreeModeJournal x = fullDisk();
        for (int f = 0; f < 3; f++) {
            x.cut(f, 0);
        }
        due("free", x.free(), 0);
        x.commit();
        due("free", x.free(), 16);
    }

    static void promise20_whenDown_isNone() {
        due("free", busyDown().free(), NONE);
    }

    // Promise 21. "How many writes were made (to log, header and home) since the disk was new, up or down."

    static void promise21_onANewDisk_is0() {
        due("writes", new ThreeModeJournal().writes(), 0);
    }

    static void promise21_logHeaderAndHome_count() {
        ThreeModeJournal x = new ThreeModeJournal();
        grow(x, 0, 1);
        x.flush(1);
        due("writes to home", x.writes(), 1);
        x.commit();
        due("writes to the log", x.writes(), 5);
        x.checkpoint(1);
        due("writes to home, and to the header", x.writes(), 8);
    }

    static void promise21_theWriteThatIsNotMade_doesNotCount() {
        ThreeModeJournal x = new ThreeModeJournal();
        grow(x, 0, 1);
        x.fuse(3);
        x.commit();
        due("writes", x.writes(), 3);
    }

    static void promise21_whenDown_isTheSame() {
        ThreeModeJournal x = threeTransactions();
        due("writes", x.writes(), 15);
        x.crash();
        due("writes", x.writes(), 15);
    }

    static void promise21_theMount_countsOn() {
        ThreeModeJournal x = threeTransactions();
        x.crash();
        x.mount(ORDERED);
        due("writes of six copies and the header", x.writes(), 22);
    }
}
