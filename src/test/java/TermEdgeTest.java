/**
 * The edges in the document's head and its section "Terms": each sentence that names one has a test of its own, named
 * after the term and the case. The sentence stands above its tests.
 */
public final class TermEdgeTest extends Checks {
    public static void main(String[] args) {
        runTests(TermEdgeTest.class);
    }

    // "An object is used for at most 512 calls after it has been made"

    static void termUse_call512_readsTheWordOfCall511() {
        ThreeModeJournal x = new ThreeModeJournal();
        for (int call = 1; call <= 511; call++) {
            if (call % 2 == 1) {
                due("write", x.write(0, 0, call), true);
            } else {
                due("commit", x.commit(), call == 2 ? 4 : 0);
            }
        }
        due("read", x.read(0, 0), 511);
    }

    static void termUse_call512_afterTheRingWentRound31Times() {
        ThreeModeJournal x = in(FULL);
        for (int call = 3; call <= 511; call++) {
            if (call % 2 == 1) {
                due("write", x.write(0, 0, call), true);
            } else {
                due("commit", x.commit(), call == 4 ? 5 : 3);
            }
        }
        due("head", x.head(), (5 + 253 * 3) % 24);
    }

    // "The power can fail at any write to the disk; mounting brings back what was committed."

    static void termPower_failsAtAnyWrite_theCommittedIsBroughtBack() {
        for (int mode : MODES) {
            int fuse = 0;
            while (fuse < 200 && !outlasts(mode, fuse)) {
                fuse++;
            }
            due("the fuse that lasts, in mode " + mode, fuse > 40 && fuse < 200, true);
        }
    }

    /** Grows, cuts and renames with commits between; false when the power failed before the end. */
    private static boolean outlasts(int mode, int fuse) {
        ThreeModeJournal x = in(mode);
        x.fuse(fuse);
        String committed = files(x, mode);
        for (int i = 0; i < 12; i++) {
            x.write(i % 3, x.length(i % 3), i);
            x.write(0, 0, 50 + i);
            x.write(0, x.length(0), 70 + i);
            if (i % 4 == 3) {
                x.cut(0, x.length(0) / 2);
                x.rename(2, 1);
            }
            String present = files(x, mode);
            if (x.commit() == FAILED) {
                due("mode", x.mode(), NONE);
                due("mount", x.mount(mode) >= 0, true);
                due("the files after fuse " + fuse + " in mode " + mode, files(x, mode), committed);
                return false;
            }
            committed = present;
        }
        return true;
    }

    /** The lengths; in FULL mode, where data is logged too, the words as well. */
    private static String files(ThreeModeJournal x, int mode) {
        StringBuilder s = new StringBuilder();
        for (int f = 0; f < 3; f++) {
            int length = x.length(f);
            s.append(' ').append(length).append(':');
            for (int o = 0; o < length && mode == FULL; o++) {
                s.append(' ').append(x.read(f, o));
            }
        }
        return s.toString();
    }

    // DISK. "23 home BLOCKS of four words (ints), numbers 0 .. 22", "blocks 7 .. 22 are the POOL"

    static void termDisk_firstPoolBlock_is7() {
        ThreeModeJournal x = new ThreeModeJournal();
        grow(x, 0, 4);
        settle(x);
        due("data block 0", x.home(0, 1), 7);
        dueHome(x, 7, wordOf(0, 0), wordOf(0, 1), wordOf(0, 2), wordOf(0, 3));
    }

    static void termDisk_lastPoolBlock_is22() {
        ThreeModeJournal x = new ThreeModeJournal();
        fillPool(x);
        settle(x);
        due("data block 1 of file 2", x.home(2, 2), 22);
        dueHome(x, 22, wordOf(2, 4), wordOf(2, 5), wordOf(2, 6), wordOf(2, 7));
    }

    static void termDisk_poolHas16Blocks() {
        ThreeModeJournal x = new ThreeModeJournal();
        due("free", x.free(), 16);
        grow(x, 0, 24);
        grow(x, 1, 24);
        grow(x, 2, 4);
        due("free before the last", x.free(), 1);
        due("write into the last", x.write(2, 4, 1), true);
        due("free", x.free(), 0);
        due("write into one more", x.write(3, 0, 1), false);
    }

    static void termDisk_wordsAreWholeInts() {
        int[] values = {Integer.MIN_VALUE, -1, 0, Integer.MAX_VALUE};
        for (int mode : MODES) {
            ThreeModeJournal x = in(mode);
            for (int o = 0; o < 4; o++) {
                x.write(0, o, values[o]);
            }
            settle(x);
            dueHome(x, 7, Integer.MIN_VALUE, -1, 0, Integer.MAX_VALUE);
        }
    }

    // "a LOG of 24 blocks in a ring, places 0 .. 23"

    static void termDisk_logOf24Blocks_isFullAt24() {
        ThreeModeJournal x = new ThreeModeJournal();
        due("room of the empty log", x.room(), 24);
        commitInodes(x, 6);
        commitInodes(x, 6);
        due("room", x.room(), 6);
        commitInodes(x, 4);
        due("room of the full log", x.room(), 0);
        due("writes without a checkpoint", x.writes(), 24);
    }

    static void termDisk_logIsARing_place0IsBehindPlace23() {
        ThreeModeJournal x = new ThreeModeJournal();
        commitInodes(x, 6);
        commitInodes(x, 5);
        commitInodes(x, 4);
        due("head at the last place", x.head(), 23);
        x.checkpoint(ALL);
        commitInodes(x, 2);
        due("head behind places 23, 0, 1, 2", x.head(), 3);
    }

    // "Blocks 0 .. 5 are the INODES of the files 0 .. 5, block 6 is the MAP"

    static void termDisk_inodesOfTheFirstAndTheLastFile_areBlocks0And5() {
        ThreeModeJournal x = new ThreeModeJournal();
        grow(x, 0, 1);
        grow(x, 5, 2);
        settle(x);
        dueHome(x, 0, 1, 7, 0, 0);
        dueHome(x, 5, 2, 8, 0, 0);
        for (int f = 1; f < 5; f++) {
            dueHome(x, f, 0, 0, 0, 0);
        }
    }

    static void termDisk_theMap_isBlock6() {
        ThreeModeJournal x = new ThreeModeJournal();
        grow(x, 0, 1);
        settle(x);
        dueHome(x, 6, 1, 0, 0, 0);
    }

    // "On a new disk all words of the home blocks are 0 and the log holds no transaction."

    static void termDisk_newDisk_allHomeWordsAre0() {
        ThreeModeJournal x = new ThreeModeJournal();
        for (int b = 0; b <= 22; b++) {
            dueHome(x, b, 0, 0, 0, 0);
        }
    }

    static void termDisk_newDisk_theLogHoldsNoTransaction() {
        ThreeModeJournal x = new ThreeModeJournal();
        due("room", x.room(), 24);
        due("checkpoint", x.checkpoint(1), 0);
        x.crash();
        due("mount", x.mount(ORDERED), 0);
        due("writes", x.writes(), 0);
    }

    // "A file has a LENGTH of 0 .. 24 words."

    static void termDisk_length_goesFrom0To24() {
        ThreeModeJournal x = new ThreeModeJournal();
        due("length at first", x.length(3), 0);
        grow(x, 3, 24);
        due("length at most", x.length(3), 24);
        due("write of a 25th word", x.write(3, 24, 1), false);
        due("length", x.length(3), 24);
        due("cut", x.cut(3, 0), true);
        due("length at least", x.length(3), 0);
    }

    // "Its words 4i .. 4i + 3 are the words 0 .. 3 of its DATA BLOCK i (i = 0 .. 5)"

    static void termDisk_wordsOfAFile_areTheWordsOfItsDataBlocks() {
        ThreeModeJournal x = new ThreeModeJournal();
        grow(x, 0, 24);
        settle(x);
        int[] blocks = {x.home(0, 1), x.home(0, 2), x.home(9, 0), x.home(9, 1), x.home(9, 2), x.home(9, 3)};
        for (int i = 0; i <= 5; i++) {
            int o = 4 * i;
            dueHome(x, blocks[i], wordOf(0, o), wordOf(0, o + 1), wordOf(0, o + 2), wordOf(0, o + 3));
        }
    }

    // "... a pool block that it has exactly when its length is more than 4i."
    // "Exactly when its length is more than 8 it has one pool block more, its INDEX."

    private static int blocksAtLength(int length) {
        return (length + 3) / 4 + (length > 8 ? 1 : 0);
    }

    static void termDisk_dataBlockI_growingFrom4ITo4IPlus1() {
        ThreeModeJournal x = new ThreeModeJournal();
        for (int length = 1; length <= 24; length++) {
            grow(x, 0, length);
            due("free at length " + length, x.free(), 16 - blocksAtLength(length));
        }
    }

    static void termDisk_dataBlockI_cuttingFrom4IPlus1To4I() {
        ThreeModeJournal x = new ThreeModeJournal();
        grow(x, 0, 24);
        for (int length = 23; length >= 0; length--) {
            due("cut", x.cut(0, length), true);
            due("free at length " + length, x.free(), 16 - blocksAtLength(length));
        }
    }

    static void termDisk_index_growingFrom8To9() {
        ThreeModeJournal x = new ThreeModeJournal();
        grow(x, 0, 8);
        settle(x);
        due("index at length 8", x.home(0, 3), 0);
        due("map at length 8", x.home(6, 0), 0x3);
        grow(x, 0, 9);
        settle(x);
        due("index at length 9", x.home(0, 3), 9);
        due("map at length 9", x.home(6, 0), 0xF);
    }

    static void termDisk_index_cuttingFrom9To8() {
        ThreeModeJournal x = new ThreeModeJournal();
        grow(x, 0, 10);
        x.cut(0, 9);
        settle(x);
        due("index at length 9", x.home(0, 3), 9);
        x.cut(0, 8);
        settle(x);
        due("index at length 8", x.home(0, 3), 0);
        due("map at length 8", x.home(6, 0), 0x3);
    }

    // "In both, 0 stands where there is no such block."

    static void termDisk_inode_has0WhereThereIsNoBlock_growing() {
        ThreeModeJournal x = new ThreeModeJournal();
        settle(x);
        dueHome(x, 0, 0, 0, 0, 0);
        int[] lengths = {1, 4, 5, 8, 9, 24};
        for (int length : lengths) {
            grow(x, 0, length);
            settle(x);
            dueHome(x, 0, length, 7, length > 4 ? 8 : 0, length > 8 ? 9 : 0);
        }
    }

    static void termDisk_inode_has0WhereThereIsNoBlock_cutting() {
        ThreeModeJournal x = new ThreeModeJournal();
        grow(x, 0, 24);
        int[] lengths = {9, 8, 5, 4, 1, 0};
        for (int length : lengths) {
            x.cut(0, length);
            settle(x);
            dueHome(x, 0, length, length > 0 ? 7 : 0, length > 4 ? 8 : 0, length > 8 ? 9 : 0);
        }
    }

    static void termDisk_index_has0WhereThereIsNoBlock_growing() {
        ThreeModeJournal x = new ThreeModeJournal();
        int[] lengths = {9, 12, 13, 16, 17, 20, 21, 24};
        for (int length : lengths) {
            grow(x, 0, length);
            settle(x);
            dueHome(x, 9, 10, length > 12 ? 11 : 0, length > 16 ? 12 : 0, length > 20 ? 13 : 0);
        }
    }

    static void termDisk_index_has0WhereThereIsNoBlock_cutting() {
        ThreeModeJournal x = new ThreeModeJournal();
        grow(x, 0, 24);
        int[] lengths = {21, 20, 17, 16, 13, 12, 9};
        for (int length : lengths) {
            x.cut(0, length);
            settle(x);
            dueHome(x, 9, 10, length > 12 ? 11 : 0, length > 16 ? 12 : 0, length > 20 ? 13 : 0);
        }
    }

    // "bit b - 7 of its word 0 is 1 exactly when pool block b is IN USE ...; its other bits and words are 0."

    static void termDisk_mapOfThePool_fullAndEmptyAgain() {
        ThreeModeJournal x = new ThreeModeJournal();
        fillPool(x);
        settle(x);
        dueHome(x, 6, 0xFFFF, 0, 0, 0);
        for (int f = 0; f < 3; f++) {
            x.cut(f, 0);
        }
        settle(x);
        dueHome(x, 6, 0, 0, 0, 0);
    }

    static void termDisk_mapBits_areThoseOfDataBlocksAndIndexes() {
        ThreeModeJournal x = new ThreeModeJournal();
        grow(x, 0, 8);
        grow(x, 1, 4);
        grow(x, 0, 9);
        x.cut(1, 0);
        settle(x);
        dueHome(x, 0, 9, 7, 8, 10);
        dueHome(x, 6, 0x1B, 0, 0, 0);
    }

    // MEMORY. "File calls read and change these alone"

    static void termMemory_fileCalls_writeNothingToTheDisk() {
        for (int mode : MODES) {
            ThreeModeJournal x = in(mode);
            grow(x, 0, 9);
            grow(x, 1, 1);
            x.cut(0, 2);
            x.rename(1, 0);
            x.write(0, 0, 5);
            due("writes in mode " + mode, x.writes(), 0);
            for (int b = 0; b <= 11; b++) {
                dueHome(x, b, 0, 0, 0, 0);
            }
        }
    }

    // "Words of a data block behind the file's length stay as they are."

    static void termMemory_wordsBehindTheLength_stayInADirtyBlock() {
        ThreeModeJournal x = in(WRITEBACK);
        grow(x, 0, 4);
        x.cut(0, 1);
        x.flush(ALL);
        dueHome(x, 7, wordOf(0, 0), wordOf(0, 1), wordOf(0, 2), wordOf(0, 3));
    }

    static void termMemory_wordsBehindTheLength_stayWhenTheFileGrowsAgain() {
        ThreeModeJournal x = new ThreeModeJournal();
        grow(x, 0, 8);
        x.cut(0, 5);
        x.write(0, 5, 1);
        settle(x);
        dueHome(x, 8, wordOf(0, 4), 1, wordOf(0, 6), wordOf(0, 7));
    }

    static void termMemory_wordsBehindTheLength_stayInACopy() {
        ThreeModeJournal x = in(FULL);
        grow(x, 0, 4);
        x.cut(0, 2);
        settle(x);
        dueHome(x, 7, wordOf(0, 0), wordOf(0, 1), wordOf(0, 2), wordOf(0, 3));
    }

    // MODES. "When a word of a data block is set, the block is JOINED ... in FULL mode; in the other modes it becomes DIRTY"

    static void termModes_wordSetInFullMode_joinsAndIsNotDirty() {
        ThreeModeJournal x = in(FULL);
        grow(x, 0, 2);
        x.commit();
        x.write(0, 0, 1);
        due("need", x.need(), 3);
        due("dirty", x.dirty(), 0);
    }

    static void termModes_wordSetInTheOtherModes_isDirtyAndNotJoined() {
        for (int mode = WRITEBACK; mode <= ORDERED; mode++) {
            ThreeModeJournal x = in(mode);
            grow(x, 0, 2);
            settle(x);
            x.write(0, 0, 1);
            due("need", x.need(), 0);
            due("dirty", x.dirty(), 1);
        }
    }

    // "... as the latest dirty block; a block that is dirty already keeps its place among them."

    private static ThreeModeJournal twoCleanBlocks() {
        ThreeModeJournal x = in(WRITEBACK);
        grow(x, 0, 8);
        settle(x);
        return x;
    }

    static void termModes_latestDirtyBlock_isTheLast() {
        ThreeModeJournal x = twoCleanBlocks();
        x.write(0, 4, 1);
        x.write(0, 0, 2);
        x.flush(1);
        due("the first that became dirty", x.home(8, 0), 1);
        due("the latest", x.home(7, 0), wordOf(0, 0));
    }

    static void termModes_dirtyAlready_keepsItsPlace() {
        ThreeModeJournal x = twoCleanBlocks();
        x.write(0, 4, 1);
        x.write(0, 0, 2);
        x.write(0, 5, 3);
        due("dirty", x.dirty(), 2);
        x.flush(1);
        dueHome(x, 8, 1, 3, wordOf(0, 6), wordOf(0, 7));
        due("the latest", x.home(7, 0), wordOf(0, 0));
    }

    static void termModes_writtenHomeAndSetAgain_isTheLatest() {
        ThreeModeJournal x = twoCleanBlocks();
        x.write(0, 4, 1);
        x.write(0, 0, 2);
        x.flush(1);
        x.write(0, 4, 3);
        x.flush(1);
        due("the first now", x.home(7, 0), 2);
        due("the latest now", x.home(8, 0), 1);
    }

    // "Inodes, the map and indexes are joined where that is said, in every mode."

    static void termModes_inodeMapAndIndex_areJoinedInEveryMode() {
        for (int mode : MODES) {
            ThreeModeJournal x = in(mode);
            grow(x, 0, 9);
            x.commit();
            x.crash();
            x.mount(mode);
            dueHome(x, 0, 9, 7, 8, 9);
            dueHome(x, 6, 0xF, 0, 0, 0);
            dueHome(x, 9, 10, 0, 0, 0);
        }
    }

    // TAKING. "the pool block with the least number that is not in use now"

    static void termTaking_aGapBelow_isTakenFirst() {
        ThreeModeJournal x = new ThreeModeJournal();
        for (int f = 0; f < 3; f++) {
            grow(x, f, 1);
        }
        x.cut(1, 0);
        x.commit();
        grow(x, 3, 5);
        settle(x);
        dueHome(x, 3, 5, 8, 10, 0);
    }

    // "... and was not in use in the map as it was at the latest commit (or mount, or on the new disk, ...)"

    static void termTaking_freedButInUseAtTheLatestCommit_isNotTaken() {
        ThreeModeJournal x = new ThreeModeJournal();
        grow(x, 0, 1);
        x.commit();
        x.cut(0, 0);
        due("free", x.free(), 15);
        grow(x, 1, 1);
        settle(x);
        due("data block 0", x.home(1, 1), 8);
    }

    static void termTaking_freedAndNotInUseAtTheLatestCommit_isTakenAgain() {
        ThreeModeJournal x = new ThreeModeJournal();
        grow(x, 0, 1);
        x.commit();
        grow(x, 1, 1);
        x.cut(1, 0);
        due("free", x.free(), 15);
        grow(x, 2, 1);
        settle(x);
        due("data block 0", x.home(2, 1), 8);
    }

    static void termTaking_freedBeforeTheLatestCommit_isTakenAgain() {
        ThreeModeJournal x = new ThreeModeJournal();
        grow(x, 0, 1);
        x.commit();
        x.cut(0, 0);
        x.commit();
        due("free", x.free(), 16);
        grow(x, 1, 1);
        settle(x);
        due("data block 0", x.home(1, 1), 7);
    }

    static void termTaking_freedBeforeASync_isTakenAgain() {
        ThreeModeJournal x = new ThreeModeJournal();
        grow(x, 0, 1);
        x.sync(0);
        x.cut(0, 0);
        due("free before", x.free(), 15);
        x.sync(0);
        due("free", x.free(), 16);
    }

    static void termTaking_freedButInUseAtTheMount_isNotTaken() {
        ThreeModeJournal x = new ThreeModeJournal();
        grow(x, 0, 1);
        x.commit();
        x.crash();
        x.mount(ORDERED);
        x.cut(0, 0);
        due("free", x.free(), 15);
        grow(x, 1, 1);
        settle(x);
        due("data block 0", x.home(1, 1), 8);
    }

    static void termTaking_takenButLostBeforeTheMount_isTakenAgain() {
        ThreeModeJournal x = new ThreeModeJournal();
        grow(x, 0, 5);
        x.crash();
        x.mount(ORDERED);
        due("free", x.free(), 16);
        grow(x, 1, 1);
        settle(x);
        due("data block 0", x.home(1, 1), 7);
    }

    static void termTaking_freedOnTheNewDiskBeforeAnyCommit_isTakenAgain() {
        ThreeModeJournal x = new ThreeModeJournal();
        grow(x, 0, 1);
        x.cut(0, 0);
        due("free", x.free(), 16);
        grow(x, 1, 1);
        settle(x);
        due("data block 0", x.home(1, 1), 7);
    }

    // "It is in use from then on, its present words become 0, and the map is joined."

    static void termTaking_aTakenBlock_isInUseAtOnce() {
        ThreeModeJournal x = new ThreeModeJournal();
        grow(x, 0, 1);
        due("free", x.free(), 15);
        grow(x, 1, 1);
        due("free", x.free(), 14);
        settle(x);
        due("data block 0 of file 0", x.home(0, 1), 7);
        due("data block 0 of file 1", x.home(1, 1), 8);
    }

    static void termTaking_presentWordsOfADataBlock_become0() {
        for (int mode : MODES) {
            ThreeModeJournal x = in(mode);
            grow(x, 0, 4);
            x.cut(0, 0);
            x.write(1, 0, 5);
            settle(x);
            dueHome(x, 7, 5, 0, 0, 0);
        }
    }

    static void termTaking_presentWordsOfAnIndex_become0() {
        for (int mode : MODES) {
            ThreeModeJournal x = in(mode);
            grow(x, 0, 8);
            grow(x, 1, 4);
            x.cut(1, 0);
            grow(x, 0, 9);
            settle(x);
            due("index", x.home(0, 3), 9);
            dueHome(x, 9, 10, 0, 0, 0);
        }
    }

    static void termTaking_theMap_isJoined() {
        ThreeModeJournal x = new ThreeModeJournal();
        grow(x, 0, 4);
        x.commit();
        x.write(0, 4, 1);
        due("need of inode and map", x.need(), 4);
    }

    // FREEING. "it is not in use any more, it is neither joined nor dirty any more, and the map is joined"

    static void termFreeing_aFreedBlock_isNotInUse() {
        ThreeModeJournal x = new ThreeModeJournal();
        grow(x, 0, 8);
        x.commit();
        x.cut(0, 4);
        settle(x);
        due("map", x.home(6, 0), 0x1);
    }

    static void termFreeing_aJoinedDataBlock_isNotJoinedAnyMore() {
        ThreeModeJournal x = in(FULL);
        grow(x, 0, 5);
        due("need of inode, map, two data blocks", x.need(), 6);
        x.cut(0, 4);
        due("need of inode, map, one data block", x.need(), 5);
    }

    static void termFreeing_aJoinedIndex_isNotJoinedAnyMore() {
        ThreeModeJournal x = new ThreeModeJournal();
        grow(x, 0, 9);
        due("need of inode, map, index", x.need(), 5);
        x.cut(0, 8);
        due("need of inode, map", x.need(), 4);
    }

    static void termFreeing_aDirtyBlock_isNotDirtyAnyMore() {
        ThreeModeJournal x = in(WRITEBACK);
        grow(x, 0, 5);
        x.cut(0, 4);
        due("dirty", x.dirty(), 1);
        due("flush", x.flush(ALL), 1);
        dueHome(x, 8, 0, 0, 0, 0);
    }

    static void termFreeing_theFirstDirtyBlock_leavesTheOthersInOrder() {
        ThreeModeJournal x = in(WRITEBACK);
        for (int f = 0; f < 4; f++) {
            grow(x, f, 1);
        }
        x.cut(0, 0);
        x.flush(2);
        due("freed", x.home(7, 0), 0);
        due("first", x.home(8, 0), wordOf(1, 0));
        due("second", x.home(9, 0), wordOf(2, 0));
        due("third", x.home(10, 0), 0);
    }

    static void termFreeing_theLastOfTheMostDirtyBlocks_leavesTheOthersInOrder() {
        ThreeModeJournal x = in(WRITEBACK);
        fifteenDirtyBlocks(x);
        x.cut(5, 16);
        due("dirty", x.dirty(), 14);
        due("flush", x.flush(ALL), 14);
        due("the last but one", x.home(21, 0), wordOf(5, 12));
        due("freed", x.home(22, 0), 0);
    }

    static void termFreeing_theMap_isJoined() {
        ThreeModeJournal x = new ThreeModeJournal();
        grow(x, 0, 5);
        x.commit();
        x.cut(0, 4);
        due("need of inode and map", x.need(), 4);
    }

    // "if it was an index, the mode is not FULL, and the log has a live copy of it, then the running transaction REVOKES it."

    static void termFreeing_indexWithALiveCopy_isRevoked() {
        for (int mode = WRITEBACK; mode <= ORDERED; mode++) {
            ThreeModeJournal x = in(mode);
            grow(x, 0, 9);
            x.commit();
            x.cut(0, 8);
            due("need of two copies and one revoked", x.need(), 5);
        }
    }

    static void termFreeing_indexWithALiveCopyInFullMode_isNotRevoked() {
        ThreeModeJournal x = in(FULL);
        grow(x, 0, 9);
        x.commit();
        x.cut(0, 8);
        due("need of two copies", x.need(), 4);
    }

    static void termFreeing_indexThatWasNeverCommitted_isNotRevoked() {
        ThreeModeJournal x = new ThreeModeJournal();
        grow(x, 0, 8);
        x.commit();
        grow(x, 0, 9);
        x.cut(0, 8);
        due("need of two copies", x.need(), 4);
    }

    static void termFreeing_indexWhoseCopyWasCheckpointed_isNotRevoked() {
        ThreeModeJournal x = new ThreeModeJournal();
        grow(x, 0, 9);
        x.commit();
        x.checkpoint(1);
        x.cut(0, 8);
        due("need of two copies", x.need(), 4);
    }

    static void termFreeing_indexWhoseCopyWasCheckpointedLongAgo_isNotRevoked() {
        for (int since = 0; since <= 24; since++) {
            ThreeModeJournal x = new ThreeModeJournal();
            grow(x, 0, 9);
            x.commit();
            x.checkpoint(1);
            for (int i = 0; i < since; i++) {
                x.rename(3, 4);
                x.commit();
                x.checkpoint(1);
            }
            x.cut(0, 8);
            due("need of two copies, " + since + " transactions later", x.need(), 4);
        }
    }

    static void termFreeing_indexWhoseCopyWasRecovered_isNotRevoked() {
        ThreeModeJournal x = new ThreeModeJournal();
        grow(x, 0, 9);
        x.commit();
        x.crash();
        x.mount(ORDERED);
        x.cut(0, 8);
        due("need of two copies", x.need(), 4);
    }

    static void termFreeing_indexWhoseCopyIsRevokedAlready_isNotRevoked() {
        ThreeModeJournal x = new ThreeModeJournal();
        grow(x, 0, 9);
        x.commit();
        x.cut(0, 8);
        x.commit();
        grow(x, 0, 9);
        x.cut(0, 8);
        due("need of two copies", x.need(), 4);
    }

    static void termFreeing_indexWithALiveCopyInAnOlderTransaction_isRevoked() {
        ThreeModeJournal x = new ThreeModeJournal();
        grow(x, 0, 9);
        x.commit();
        grow(x, 0, 10);
        x.commit();
        x.cut(0, 8);
        due("need of two copies and one revoked", x.need(), 5);
    }

    static void termFreeing_indexWithTwoCopies_isRevokedOnce() {
        ThreeModeJournal x = new ThreeModeJournal();
        grow(x, 0, 9);
        x.commit();
        grow(x, 0, 13);
        x.commit();
        x.cut(0, 8);
        due("need of two copies and one revoked", x.need(), 5);
        x.commit();
        int before = x.writes();
        x.crash();
        x.mount(ORDERED);
        due("writes of inode and map, three times, and the header", x.writes(), before + 7);
    }

    /** Nothing is said of a revoked block that ends its being revoked, but the commit and the loss of power. */
    static void termFreeing_indexRevokedAndItsCopyCheckpointedThen_staysRevoked() {
        ThreeModeJournal x = new ThreeModeJournal();
        grow(x, 0, 9);
        x.commit();
        x.cut(0, 8);
        x.checkpoint(1);
        due("need of two copies and one revoked", x.need(), 5);
        due("commit", x.commit(), 5);
    }

    static void termFreeing_severalIndexesInOneTransaction_areAllRevoked() {
        ThreeModeJournal x = new ThreeModeJournal();
        grow(x, 0, 9);
        grow(x, 1, 9);
        x.commit();
        x.cut(0, 8);
        x.cut(1, 8);
        due("commit of three copies and two revoked", x.commit(), 6);
        due("checkpoint of the header alone", x.checkpoint(1), 1);
        dueHome(x, 9, 0, 0, 0, 0);
        dueHome(x, 13, 0, 0, 0, 0);
    }

    static void termFreeing_dataBlocks_areNotRevoked() {
        for (int mode : MODES) {
            ThreeModeJournal x = in(mode);
            grow(x, 0, 8);
            x.commit();
            x.cut(0, 0);
            due("need of two copies", x.need(), 4);
        }
    }

    // LOG. "a COPY of each block that was joined when it was committed, with the words present then"

    static void termLog_wordsSetAfterTheCommit_areNotInTheCopy() {
        ThreeModeJournal x = in(FULL);
        x.write(0, 0, 1);
        x.commit();
        x.write(0, 0, 2);
        x.crash();
        x.mount(FULL);
        due("read", x.read(0, 0), 1);
    }

    static void termLog_wordsSetBetweenJoiningAndCommit_areInTheCopy() {
        ThreeModeJournal x = in(FULL);
        x.write(0, 0, 1);
        x.write(0, 0, 2);
        x.commit();
        x.crash();
        x.mount(FULL);
        due("read", x.read(0, 0), 2);
    }

    static void termLog_blocksNotJoined_haveNoCopy() {
        ThreeModeJournal x = in(WRITEBACK);
        x.write(0, 0, 1);
        x.commit();
        due("checkpoint of inode and map", x.checkpoint(1), 3);
        dueHome(x, 7, 0, 0, 0, 0);
    }

    // "A copy is LIVE when no later transaction in the log has a copy of the same block or revoked that block."

    static void termLog_copyWithALaterCopy_isNotLive() {
        ThreeModeJournal x = in(FULL);
        x.write(0, 0, 1);
        x.commit();
        x.write(0, 0, 2);
        x.commit();
        due("checkpoint of inode and map", x.checkpoint(1), 3);
        due("data", x.home(7, 0), 0);
        due("checkpoint of the data block", x.checkpoint(1), 2);
        due("data", x.home(7, 0), 2);
    }

    static void termLog_copyThatALaterTransactionRevoked_isNotLive() {
        ThreeModeJournal x = new ThreeModeJournal();
        grow(x, 0, 9);
        x.commit();
        x.cut(0, 8);
        x.commit();
        due("checkpoint of the header alone", x.checkpoint(1), 1);
        dueHome(x, 9, 0, 0, 0, 0);
    }

    static void termLog_copyThatOnlyTheRunningTransactionRevoked_isLive() {
        ThreeModeJournal x = new ThreeModeJournal();
        grow(x, 0, 9);
        x.commit();
        x.cut(0, 8);
        due("checkpoint of inode, map and index", x.checkpoint(1), 4);
        dueHome(x, 9, 10, 0, 0, 0);
    }

    static void termLog_copyLaterThanTheRevoking_isLive() {
        ThreeModeJournal x = new ThreeModeJournal();
        grow(x, 0, 9);
        x.commit();
        x.cut(0, 8);
        x.commit();
        grow(x, 0, 9);
        x.commit();
        due("checkpoint of the two older", x.checkpoint(2), 1);
        due("checkpoint of inode, map and index", x.checkpoint(1), 4);
        dueHome(x, 9, 10, 0, 0, 0);
    }

    // "with c blocks joined and r revoked, c + c / 4 + r / 4 + 1 log blocks, both quotients rounded up"

    /** Files 0, 1, 2 and 4 have 8, 24, 8 and 1 words, all at home. */
    private static ThreeModeJournal manyBlocksInFullMode() {
        ThreeModeJournal x = in(FULL);
        grow(x, 0, 8);
        grow(x, 1, 24);
        grow(x, 2, 8);
        grow(x, 4, 1);
        settle(x);
        due("need", x.need(), 0);
        return x;
    }

    /** Joins the data blocks of file 1, then of file 2, then of file 0. */
    private static void joinDataBlocks(ThreeModeJournal x, int n) {
        for (int i = 0; i < n; i++) {
            int f = i < 6 ? 1 : i < 8 ? 2 : 0;
            int block = i < 6 ? i : i < 8 ? i - 6 : i - 8;
            due("write", x.write(f, 4 * block, 500 + i), true);
        }
    }

    static void termLog_need_ofOneToNineCopies() {
        int[] needs = {0, 3, 4, 5, 6, 8, 9, 10, 11, 13};
        for (int c = 0; c <= 9; c++) {
            ThreeModeJournal x = manyBlocksInFullMode();
            joinDataBlocks(x, c);
            due("need of " + c + " copies", x.need(), needs[c]);
            due("commit of " + c + " copies", x.commit(), needs[c]);
        }
    }

    static void termLog_need_ofTenToTwelveCopies() {
        int[] files = {4, 3, 0};
        int[] offsets = {1, 0, 8};
        int[] needs = {14, 15, 16};
        for (int i = 0; i < 3; i++) {
            ThreeModeJournal x = manyBlocksInFullMode();
            joinDataBlocks(x, 8);
            due("write", x.write(files[i], offsets[i], 1), true);
            due("need of " + (10 + i) + " copies", x.need(), needs[i]);
            due("commit of " + (10 + i) + " copies", x.commit(), needs[i]);
        }
    }

    /** Four can be revoked at most: a file with an index has at least four blocks of the sixteen. */
    static void termLog_need_ofNoneToFourRevoked() {
        int[] needs = {0, 6, 7, 9, 10};
        for (int r = 0; r <= 4; r++) {
            ThreeModeJournal x = new ThreeModeJournal();
            for (int f = 0; f < 4; f++) {
                grow(x, f, 9);
            }
            x.commit();
            for (int f = 0; f < r; f++) {
                x.rename(5, f);
            }
            due("need of " + (r + 2) + " copies and " + r + " revoked", x.need(), needs[r]);
            due("commit", x.commit(), needs[r]);
        }
    }

    // "the running transaction needs 0 when nothing is joined"

    static void termLog_need_is0WhenNothingIsJoined() {
        ThreeModeJournal x = twoCleanBlocks();
        due("need", x.need(), 0);
        x.write(0, 0, 1);
        due("dirty", x.dirty(), 1);
        due("need with a dirty block", x.need(), 0);
    }

    // WRITING HOME. "its present words are written to its home block; it is not dirty any more."

    static void termWritingHome_thePresentWords_areWritten() {
        ThreeModeJournal x = twoCleanBlocks();
        x.write(0, 0, 1);
        x.write(0, 3, 2);
        x.write(0, 0, 3);
        x.flush(1);
        dueHome(x, 7, 3, wordOf(0, 1), wordOf(0, 2), 2);
    }

    static void termWritingHome_theBlock_isNotDirtyAnyMore() {
        ThreeModeJournal x = twoCleanBlocks();
        x.write(0, 0, 1);
        x.flush(1);
        due("dirty", x.dirty(), 0);
        due("flush", x.flush(1), 0);
    }

    // COMMIT. "First, in ORDERED mode, all dirty blocks are written home, in the order in which they became dirty."

    static void termCommit_orderedMode_dirtyBlocksAreWrittenBeforeTheLog() {
        ThreeModeJournal x = new ThreeModeJournal();
        grow(x, 0, 8);
        x.fuse(2);
        due("commit", x.commit(), FAILED);
        due("first", x.home(7, 0), wordOf(0, 0));
        due("second", x.home(8, 0), wordOf(0, 4));
        due("mount", x.mount(ORDERED), 0);
    }

    static void termCommit_orderedMode_dirtyBlocksAreWrittenInTheirOrder() {
        ThreeModeJournal x = new ThreeModeJournal();
        grow(x, 0, 8);
        settle(x);
        x.write(0, 4, 1);
        x.write(0, 0, 2);
        x.fuse(1);
        due("commit", x.commit(), FAILED);
        due("first", x.home(8, 0), 1);
        due("second", x.home(7, 0), wordOf(0, 0));
    }

    static void termCommit_writebackMode_dirtyBlocksStayDirty() {
        ThreeModeJournal x = in(WRITEBACK);
        grow(x, 0, 8);
        due("commit", x.commit(), 4);
        due("writes of the log blocks alone", x.writes(), 4);
        due("dirty", x.dirty(), 2);
    }

    // "If nothing is joined, that is all."

    static void termCommit_nothingJoinedNothingDirty_writesNothing() {
        for (int mode : MODES) {
            ThreeModeJournal x = in(mode);
            due("commit", x.commit(), 0);
            due("writes", x.writes(), 0);
            due("head", x.head(), 0);
            x.crash();
            due("mount", x.mount(mode), 0);
        }
    }

    static void termCommit_nothingJoinedAndTheLogFull_checkpointsNothing() {
        ThreeModeJournal x = new ThreeModeJournal();
        commitInodes(x, 6);
        commitInodes(x, 6);
        commitInodes(x, 4);
        due("room", x.room(), 0);
        due("commit", x.commit(), 0);
        due("writes", x.writes(), 24);
        due("room", x.room(), 0);
    }

    // "if fewer log blocks are free than the running transaction needs, the oldest transactions are checkpointed
    // together, as few as leave enough free"

    static void termCommit_justEnoughFree_checkpointsNothing() {
        ThreeModeJournal x = new ThreeModeJournal();
        commitInodes(x, 6);
        commitInodes(x, 6);
        joinInodes(x, 4);
        due("room", x.room(), 6);
        due("need", x.need(), 6);
        due("commit", x.commit(), 6);
        due("writes", x.writes(), 24);
        due("room", x.room(), 0);
        x.crash();
        due("mount", x.mount(ORDERED), 3);
    }

    static void termCommit_oneTooFewFree_checkpointsTheOldest() {
        ThreeModeJournal x = new ThreeModeJournal();
        commitInodes(x, 6);
        commitInodes(x, 5);
        joinInodes(x, 5);
        due("room", x.room(), 7);
        due("need", x.need(), 8);
        due("commit", x.commit(), 8);
        due("writes of one live copy, the header and the log blocks", x.writes(), 17 + 2 + 8);
        due("room", x.room(), 8);
        x.crash();
        due("mount", x.mount(ORDERED), 2);
    }

    private static ThreeModeJournal fiveOfFour() {
        ThreeModeJournal x = new ThreeModeJournal();
        for (int i = 0; i < 5; i++) {
            commitInodes(x, 2);
        }
        due("room", x.room(), 4);
        return x;
    }

    static void termCommit_oneLeavesJustEnough_oneGoes() {
        ThreeModeJournal x = fiveOfFour();
        commitInodes(x, 5);
        due("room", x.room(), 0);
        due("writes of the header and the log blocks", x.writes(), 20 + 1 + 8);
        x.crash();
        due("mount", x.mount(ORDERED), 5);
    }

    static void termCommit_oneLeavesOneTooFew_twoGoTogether() {
        ThreeModeJournal x = fiveOfFour();
        commitInodes(x, 6);
        due("room", x.room(), 3);
        due("writes of one header and the log blocks", x.writes(), 20 + 1 + 9);
        x.crash();
        due("mount", x.mount(ORDERED), 4);
    }

    static void termCommit_allButOneLeaveOneTooFew_allGo() {
        ThreeModeJournal x = manyBlocksInFullMode();
        joinDataBlocks(x, 6);
        due("commit", x.commit(), 9);
        joinDataBlocks(x, 6);
        due("commit", x.commit(), 9);
        joinDataBlocks(x, 8);
        x.write(0, 8, 1);
        due("room", x.room(), 6);
        due("need", x.need(), 16);
        int before = x.writes();
        due("commit", x.commit(), 16);
        due("writes of six live copies, the header and the log blocks", x.writes(), before + 7 + 16);
        due("room", x.room(), 8);
        x.crash();
        due("mount", x.mount(FULL), 1);
    }

    // "then its log blocks are written, the commit block last"

    static void termCommit_powerFailsInTheCheckpoint_theLogIsAsBefore() {
        ThreeModeJournal x = fiveOfFour();
        joinInodes(x, 3);
        x.fuse(0);
        due("commit", x.commit(), FAILED);
        due("mount", x.mount(ORDERED), 5);
    }

    static void termCommit_powerFailsBehindTheCheckpoint_theCheckpointedAreGone() {
        for (int k = 1; k <= 5; k++) {
            ThreeModeJournal x = fiveOfFour();
            joinInodes(x, 3);
            x.fuse(k);
            due("commit with fuse " + k, x.commit(), FAILED);
            due("mount", x.mount(ORDERED), 4);
            due("head", x.head(), 20);
        }
    }

    static void termCommit_everyLogBlockButTheCommitBlock_isNoTransaction() {
        for (int k = 0; k < 4; k++) {
            ThreeModeJournal x = in(WRITEBACK);
            grow(x, 0, 1);
            x.fuse(k);
            due("commit with fuse " + k, x.commit(), FAILED);
            due("mount", x.mount(WRITEBACK), 0);
            due("length", x.length(0), 0);
        }
    }

    static void termCommit_theCommitBlockToo_isATransaction() {
        ThreeModeJournal x = in(WRITEBACK);
        grow(x, 0, 1);
        x.fuse(4);
        due("commit", x.commit(), 4);
        x.crash();
        due("mount", x.mount(WRITEBACK), 1);
        due("length", x.length(0), 1);
    }

    // "from the place behind the transaction before (place 0 at first, and again behind place 23)"

    static void termCommit_theFirstTransaction_isWrittenFromPlace0() {
        ThreeModeJournal x = new ThreeModeJournal();
        due("head", x.head(), 0);
        commitInodes(x, 2);
        due("head", x.head(), 4);
    }

    static void termCommit_endingAtPlace23_theNextStartsAtPlace0() {
        ThreeModeJournal x = new ThreeModeJournal();
        commitInodes(x, 6);
        commitInodes(x, 6);
        commitInodes(x, 4);
        due("head", x.head(), 0);
        commitInodes(x, 2);
        due("head", x.head(), 4);
    }

    static void termCommit_goingRoundBehindPlace23_keepsItsCopies() {
        ThreeModeJournal x = manyBlocksInFullMode();
        for (int i = 0; i < 24 && x.head() != 22; i++) {
            x.write(4, 0, i);
            due("commit", x.commit(), 3);
            x.rename(3, 5);
            due("commit", x.commit(), 4);
        }
        due("head", x.head(), 22);
        joinDataBlocks(x, 8);
        due("commit", x.commit(), 11);
        due("head", x.head(), 9);
        x.crash();
        x.mount(FULL);
        for (int i = 0; i < 8; i++) {
            due("read", x.read(i < 6 ? 1 : 2, 4 * (i < 6 ? i : i - 6)), 500 + i);
        }
    }

    static void termCommit_theCheckpointedPlaces_areNotWrittenFromAgainAtOnce() {
        ThreeModeJournal x = new ThreeModeJournal();
        commitInodes(x, 2);
        x.checkpoint(1);
        due("room", x.room(), 24);
        due("head", x.head(), 4);
    }

    // "When the commit block is written, ... the next running transaction has nothing joined and nothing revoked."

    static void termCommit_theNextTransaction_hasNothingJoined() {
        ThreeModeJournal x = in(FULL);
        grow(x, 0, 9);
        x.commit();
        due("need", x.need(), 0);
        due("commit", x.commit(), 0);
        x.write(0, 0, 1);
        due("need of one copy", x.need(), 3);
    }

    static void termCommit_theNextTransaction_hasNothingRevoked() {
        ThreeModeJournal x = new ThreeModeJournal();
        grow(x, 0, 9);
        x.commit();
        x.cut(0, 8);
        due("commit of two copies and one revoked", x.commit(), 5);
        x.cut(0, 7);
        due("need of one copy", x.need(), 3);
    }

    // "A transaction whose commit block is not written is not in the log, and its log blocks are free."

    static void termCommit_withoutItsCommitBlock_itsLogBlocksAreFree() {
        ThreeModeJournal x = new ThreeModeJournal();
        commitInodes(x, 2);
        x.checkpoint(1);
        commitInodes(x, 6);
        joinInodes(x, 6);
        x.fuse(8);
        due("commit", x.commit(), FAILED);
        due("mount", x.mount(ORDERED), 1);
        due("room", x.room(), 24);
        due("head", x.head(), 13);
        commitInodes(x, 2);
        due("head", x.head(), 17);
    }

    static void termCommit_withoutItsCommitBlock_theOlderStayInTheLog() {
        ThreeModeJournal x = in(FULL);
        x.write(0, 0, 1);
        x.commit();
        x.write(0, 0, 2);
        x.commit();
        x.write(0, 0, 3);
        x.fuse(2);
        due("commit", x.commit(), FAILED);
        due("mount", x.mount(FULL), 2);
        due("read", x.read(0, 0), 2);
    }

    // CHECKPOINTING. "for each of them, from the oldest on, each of its copies that is live ... is written to its home
    // block, in the order of the blocks' numbers"

    static void termCheckpointing_copiesOfOneTransaction_goInTheOrderOfTheirNumbers() {
        for (int k = 0; k <= 2; k++) {
            ThreeModeJournal x = new ThreeModeJournal();
            grow(x, 5, 1);
            grow(x, 2, 1);
            x.commit();
            x.fuse(k);
            due("checkpoint with fuse " + k, x.checkpoint(1), FAILED);
            due("inode 2", x.home(2, 0), k > 0 ? 1 : 0);
            due("inode 5", x.home(5, 0), k > 1 ? 1 : 0);
            due("map", x.home(6, 0), 0);
        }
    }

    static void termCheckpointing_theOldestTransaction_goesFirst() {
        ThreeModeJournal x = new ThreeModeJournal();
        grow(x, 5, 1);
        x.commit();
        grow(x, 2, 1);
        x.commit();
        x.fuse(1);
        due("checkpoint", x.checkpoint(2), FAILED);
        due("inode 5, of the oldest", x.home(5, 0), 1);
        due("inode 2", x.home(2, 0), 0);
    }

    // "(all of them being still in the log)"

    static void termCheckpointing_aCopyWithALaterOneAmongThem_isNotWritten() {
        ThreeModeJournal x = new ThreeModeJournal();
        grow(x, 0, 1);
        x.commit();
        grow(x, 0, 2);
        x.commit();
        due("checkpoint of the map, the later inode and the header", x.checkpoint(2), 3);
        due("inode", x.home(0, 0), 2);
    }

    static void termCheckpointing_aCopyWithALaterOneNotAmongThem_isNotWritten() {
        ThreeModeJournal x = new ThreeModeJournal();
        grow(x, 0, 1);
        x.commit();
        grow(x, 0, 2);
        x.commit();
        due("checkpoint of the map and the header", x.checkpoint(1), 2);
        due("inode", x.home(0, 0), 0);
    }

    static void termCheckpointing_aCopyRevokedByOneAmongThem_isNotWritten() {
        ThreeModeJournal x = new ThreeModeJournal();
        grow(x, 0, 9);
        x.commit();
        x.cut(0, 8);
        x.commit();
        due("checkpoint of inode, map and header", x.checkpoint(2), 3);
        dueHome(x, 9, 0, 0, 0, 0);
    }

    // "then the header is written; when it is written, they are not in the log any more."

    static void termCheckpointing_powerFailsAtTheHeader_theyStayInTheLog() {
        ThreeModeJournal x = new ThreeModeJournal();
        grow(x, 0, 1);
        x.commit();
        x.fuse(2);
        due("checkpoint", x.checkpoint(1), FAILED);
        dueHome(x, 0, 1, 7, 0, 0);
        dueHome(x, 6, 1, 0, 0, 0);
        due("mount", x.mount(ORDERED), 1);
    }

    static void termCheckpointing_theHeaderIsWritten_theyAreNotInTheLog() {
        ThreeModeJournal x = new ThreeModeJournal();
        grow(x, 0, 1);
        x.commit();
        x.fuse(3);
        due("checkpoint", x.checkpoint(1), 3);
        due("room", x.room(), 24);
        x.crash();
        due("mount", x.mount(ORDERED), 0);
    }

    static void termCheckpointing_withoutALiveCopy_theHeaderIsWrittenAllTheSame() {
        ThreeModeJournal x = new ThreeModeJournal();
        commitInodes(x, 2);
        commitInodes(x, 2);
        due("checkpoint", x.checkpoint(1), 1);
        due("room", x.room(), 20);
    }

    // WRITES AND POWER. "Every writing of one block (home block, log block or header) is one WRITE."

    static void termWrites_aHomeBlock_isOneWrite() {
        ThreeModeJournal x = new ThreeModeJournal();
        grow(x, 0, 4);
        x.flush(1);
        due("writes", x.writes(), 1);
    }

    static void termWrites_aLogBlock_isOneWrite() {
        ThreeModeJournal x = new ThreeModeJournal();
        commitInodes(x, 2);
        due("writes", x.writes(), 4);
    }

    static void termWrites_theHeader_isOneWrite() {
        ThreeModeJournal x = new ThreeModeJournal();
        commitInodes(x, 2);
        commitInodes(x, 2);
        x.checkpoint(1);
        due("writes", x.writes(), 9);
    }

    // "A write that is due when the fuse is 0 is not made: the power FAILS."

    static void termWrites_fuse0_aHomeWriteIsNotMade() {
        ThreeModeJournal x = new ThreeModeJournal();
        grow(x, 0, 1);
        x.fuse(0);
        due("flush", x.flush(1), FAILED);
        due("writes", x.writes(), 0);
        due("home", x.home(7, 0), 0);
        due("mode", x.mode(), NONE);
    }

    static void termWrites_fuse0_aLogWriteIsNotMade() {
        ThreeModeJournal x = new ThreeModeJournal();
        joinInodes(x, 2);
        x.fuse(0);
        due("commit", x.commit(), FAILED);
        due("writes", x.writes(), 0);
        due("mode", x.mode(), NONE);
    }

    static void termWrites_fuse0_aHeaderWriteIsNotMade() {
        ThreeModeJournal x = new ThreeModeJournal();
        commitInodes(x, 2);
        commitInodes(x, 2);
        x.fuse(0);
        due("checkpoint", x.checkpoint(1), FAILED);
        due("writes", x.writes(), 8);
        due("mount", x.mount(ORDERED), 2);
    }

    static void termWrites_fuse0WithoutAWriteDue_thePowerStays() {
        ThreeModeJournal x = new ThreeModeJournal();
        x.fuse(0);
        due("write", x.write(0, 0, 1), true);
        due("cut", x.cut(0, 0), true);
        due("rename", x.rename(0, 1), true);
        due("flush of nothing", x.flush(1), 0);
        due("checkpoint of nothing", x.checkpoint(1), 0);
        due("mode", x.mode(), ORDERED);
        due("commit", x.commit(), FAILED);
    }

    // "Any other write is made, and the fuse, if there is one, goes down by 1."

    static void termWrites_fuseOfK_letsKWritesPass() {
        for (int k = 1; k <= 6; k++) {
            ThreeModeJournal x = in(WRITEBACK);
            grow(x, 0, 24);
            x.fuse(k);
            for (int i = 0; i < k; i++) {
                due("flush", x.flush(1), 1);
            }
            due("the write behind them", x.commit(), FAILED);
            due("writes", x.writes(), k);
        }
    }

    static void termWrites_callsThatWriteNothing_leaveTheFuse() {
        ThreeModeJournal x = in(WRITEBACK);
        x.fuse(1);
        for (int i = 0; i < 3; i++) {
            due("commit of nothing", x.commit(), 0);
            due("sync of nothing", x.sync(0), true);
            due("flush of nothing", x.flush(1), 0);
            due("checkpoint of nothing", x.checkpoint(1), 0);
            due("mount when up", x.mount(FULL), NONE);
            due("sum of what can be looked at", x.mode() + x.need() + x.room() + x.head() + x.dirty() + x.free()
                + x.writes() + x.read(0, 0) + x.length(0) + x.home(7, 0), 40);
        }
        x.write(0, 0, 1);
        x.write(0, 1, 1);
        x.cut(0, 1);
        x.rename(0, 1);
        due("flush", x.flush(1), 1);
        x.write(1, 0, 2);
        due("flush", x.flush(1), FAILED);
    }

    static void termWrites_withoutAFuse_everyWriteIsMade() {
        ThreeModeJournal x = new ThreeModeJournal();
        for (int i = 0; i < 200; i++) {
            x.write(0, 0, i);
            due("commit", x.commit() >= 0, true);
        }
        due("writes", x.writes(), 204);
    }

    // "When the power fails, the call that is going on ends at once, there is no fuse any more"

    static void termWrites_powerFails_theCallEndsAtOnce() {
        ThreeModeJournal x = in(WRITEBACK);
        grow(x, 0, 8);
        x.fuse(0);
        due("flush", x.flush(2), FAILED);
        due("writes", x.writes(), 0);
        dueHome(x, 7, 0, 0, 0, 0);
        dueHome(x, 8, 0, 0, 0, 0);
    }

    static void termWrites_powerFailsInSync_nothingIsCommitted() {
        ThreeModeJournal x = in(WRITEBACK);
        grow(x, 0, 1);
        x.fuse(0);
        due("sync", x.sync(0), false);
        due("writes", x.writes(), 0);
        due("mount", x.mount(WRITEBACK), 0);
    }

    static void termWrites_powerFails_thereIsNoFuseAnyMore() {
        ThreeModeJournal x = new ThreeModeJournal();
        commitInodes(x, 2);
        grow(x, 0, 1);
        x.fuse(0);
        due("flush", x.flush(1), FAILED);
        due("mount with three writes", x.mount(ORDERED), 1);
        due("writes", x.writes(), 7);
    }

    // "the system is DOWN: present words, what was joined, revoked or dirty, are lost."

    private static ThreeModeJournal lostAndMounted(int mode) {
        ThreeModeJournal x = in(mode);
        grow(x, 0, 9);
        settle(x);
        grow(x, 1, 9);
        x.commit();
        x.cut(1, 8);
        x.write(0, 0, 1);
        grow(x, 2, 1);
        x.fuse(0);
        due("commit", x.commit(), FAILED);
        due("mode", x.mode(), NONE);
        due("mount", x.mount(mode), 1);
        return x;
    }

    static void termWrites_powerFails_presentWordsAreLost() {
        for (int mode : MODES) {
            ThreeModeJournal x = lostAndMounted(mode);
            due("word", x.read(0, 0), wordOf(0, 0));
            due("length", x.length(1), 9);
            due("length", x.length(2), 0);
        }
    }

    static void termWrites_powerFails_whatWasJoinedOrRevokedIsLost() {
        for (int mode : MODES) {
            ThreeModeJournal x = lostAndMounted(mode);
            due("need", x.need(), 0);
            x.cut(0, 5);
            due("need of inode and map, nothing revoked", x.need(), 4);
        }
    }

    static void termWrites_powerFails_whatWasDirtyIsLost() {
        for (int mode : MODES) {
            ThreeModeJournal x = lostAndMounted(mode);
            due("dirty", x.dirty(), 0);
            due("flush", x.flush(ALL), 0);
            x.write(0, 4, 1);
            due("dirty", x.dirty(), mode == FULL ? 0 : 1);
        }
    }

    // "What was written until then stays on the disk."

    static void termWrites_powerFails_whatWasWrittenStays() {
        ThreeModeJournal x = in(WRITEBACK);
        grow(x, 0, 8);
        x.fuse(1);
        due("flush", x.flush(2), FAILED);
        dueHome(x, 7, wordOf(0, 0), wordOf(0, 1), wordOf(0, 2), wordOf(0, 3));
        dueHome(x, 8, 0, 0, 0, 0);
        due("writes", x.writes(), 1);
    }

    // A LARGE transaction. "before write, cut and rename ... the running transaction is committed if it needs more
    // than 12 log blocks"

    static void termLarge_needOf12_writeDoesNotCommit() {
        ThreeModeJournal x = needOfTwelve();
        int before = x.writes();
        due("write", x.write(2, 1, 1), true);
        due("writes", x.writes(), before);
        due("need", x.need(), 12);
    }

    static void termLarge_needOf12_cutDoesNotCommit() {
        ThreeModeJournal x = needOfTwelve();
        int before = x.writes();
        due("cut", x.cut(2, 0), true);
        due("writes", x.writes(), before);
        due("need", x.need(), 12);
    }

    static void termLarge_needOf12_renameDoesNotCommit() {
        ThreeModeJournal x = needOfTwelve();
        int before = x.writes();
        due("rename", x.rename(2, 3), true);
        due("writes", x.writes(), before);
        due("need", x.need(), 12);
    }

    static void termLarge_needOf13_writeCommitsBefore() {
        ThreeModeJournal x = large();
        due("write", x.write(0, 1, 7), true);
        due("writes", x.writes(), 13);
        due("need of what it changed itself", x.need(), 4);
        due("length", x.length(0), 2);
        x.crash();
        x.mount(FULL);
        due("length in the commit", x.length(0), 1);
    }

    static void termLarge_needOf13_cutCommitsBefore() {
        ThreeModeJournal x = large();
        due("cut", x.cut(0, 0), true);
        due("writes", x.writes(), 13);
        due("need of what it changed itself", x.need(), 4);
        due("length", x.length(0), 0);
        x.crash();
        x.mount(FULL);
        due("length in the commit", x.length(0), 1);
    }

    static void termLarge_needOf13_renameCommitsBefore() {
        ThreeModeJournal x = large();
        due("rename", x.rename(0, 5), true);
        due("writes", x.writes(), 13);
        due("need of what it changed itself", x.need(), 4);
        due("length", x.length(5), 1);
        x.crash();
        x.mount(FULL);
        due("length in the commit", x.length(0), 1);
    }

    static void termLarge_aWriteThatOnlySetsAWord_commitsBeforeToo() {
        ThreeModeJournal x = large();
        due("write", x.write(0, 0, 7), true);
        due("writes", x.writes(), 13);
        due("need", x.need(), 3);
    }

    static void termLarge_inOrderedMode_dirtyBlocksAreWrittenFirst() {
        ThreeModeJournal x = needOfTwelve();
        x.write(0, 8, 1);
        due("need", x.need(), 14);
        int before = x.writes();
        int dirty = x.dirty();
        x.write(3, 1, 1);
        due("writes of dirty blocks, then of the log with room for it", x.writes(), before + dirty + 14);
        due("dirty", x.dirty(), 1);
    }

    static void termLarge_theOtherCalls_doNotCommit() {
        ThreeModeJournal x = large();
        x.read(0, 0);
        x.length(0);
        x.flush(1);
        x.checkpoint(1);
        x.fuse(30);
        x.mount(FULL);
        due("writes", x.writes(), 0);
        due("need", x.need(), 13);
    }

    static void termLarge_theBlocksTakenBehindTheCommit_areTheLeastThen() {
        ThreeModeJournal x = in(FULL);
        grow(x, 0, 1);
        x.commit();
        x.cut(0, 0);
        for (int f = 1; f < 5; f++) {
            grow(x, f, 1);
        }
        due("need", x.need(), 14);
        grow(x, 5, 1);
        settle(x);
        due("the block that the commit gave back", x.home(5, 1), 7);
    }

    // "if the power fails in that, the call does nothing else and answers false (the system is DOWN then ...)"

    private static void dueFailedInLargeCommit(String call, Call c) {
        for (int k = 0; k < 13; k++) {
            ThreeModeJournal x = large();
            x.fuse(k);
            due(call + " with fuse " + k, c.on(x), 0);
            due("mode", x.mode(), NONE);
            due("writes", x.writes(), k);
            due("mount", x.mount(FULL), 0);
            due("need", x.need(), 0);
        }
        ThreeModeJournal x = large();
        x.fuse(13);
        due(call + " with fuse 13", c.on(x), 1);
        due("mode", x.mode(), FULL);
    }

    static void termLarge_powerFailsInTheCommit_writeAnswersFalse() {
        dueFailedInLargeCommit("write", x -> truth(x.write(0, 1, 7)));
    }

    static void termLarge_powerFailsInTheCommit_cutAnswersFalse() {
        dueFailedInLargeCommit("cut", x -> truth(x.cut(0, 0)));
    }

    static void termLarge_powerFailsInTheCommit_renameAnswersFalse() {
        dueFailedInLargeCommit("rename", x -> truth(x.rename(0, 1)));
    }

    // "Whether a call is refused is decided before that (with the blocks that can be taken then)."
    // "A refused call changes nothing."

    static void termLarge_refusedWrite_doesNotCommit() {
        dueRefused("write", Checks::large, x -> truth(x.write(0, 2, 7)), 0);
    }

    static void termLarge_refusedCut_doesNotCommit() {
        dueRefused("cut", Checks::large, x -> truth(x.cut(0, 1)), 0);
    }

    static void termLarge_refusedRename_doesNotCommit() {
        dueRefused("rename", Checks::large, x -> truth(x.rename(2, 2)), 0);
    }

    /** Seven blocks are freed, but in use at the latest commit; nine are joined. */
    private static ThreeModeJournal largeWithBlocksToCome(int lengthOfFile1) {
        ThreeModeJournal x = in(FULL);
        grow(x, 0, 24);
        grow(x, 1, lengthOfFile1);
        grow(x, 2, 8);
        x.commit();
        x.cut(0, 0);
        for (int o = 0; o < 20; o += 4) {
            x.write(1, o, 5);
        }
        x.write(2, 0, 5);
        x.write(2, 4, 5);
        due("need", x.need(), 13);
        return x;
    }

    static void termLarge_noBlockBeforeTheCommitSevenBehindIt_isRefused() {
        due("free", largeWithBlocksToCome(24).free(), 0);
        dueRefused("write", () -> largeWithBlocksToCome(24), x -> truth(x.write(3, 0, 1)), 0);
    }

    static void termLarge_oneOfTwoBlocksBeforeTheCommitMoreBehindIt_isRefused() {
        due("free", largeWithBlocksToCome(20).free(), 1);
        dueRefused("write", () -> largeWithBlocksToCome(20), x -> truth(x.write(2, 8, 1)), 0);
    }

    static void termLarge_oneBlockBeforeTheCommit_isEnoughForOne() {
        ThreeModeJournal x = largeWithBlocksToCome(20);
        due("write", x.write(3, 0, 1), true);
        due("free", x.free(), 7);
    }

    // The constants

    static void termConstants_haveTheirValues() {
        due("WRITEBACK", ThreeModeJournal.WRITEBACK, 0);
        due("ORDERED", ThreeModeJournal.ORDERED, 1);
        due("FULL", ThreeModeJournal.FULL, 2);
        due("NONE", ThreeModeJournal.NONE, -1);
        due("FAILED", ThreeModeJournal.FAILED, -2);
    }
}
