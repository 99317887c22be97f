import java.util.ArrayList;
import java.util.List;
import java.util.Random;
import java.util.TreeMap;
import java.util.TreeSet;

/**
 * What a user of the files is promised, held without a word on copies, revoking or checkpoints: in runs drawn from
 * fixed seeds the power fails at any write, and what the mount brings back is held against the files as they were
 * committed.
 */
public final class RecoveryTest extends Checks {
    private static final int RUNS = 20000;
    private static final int CALLS = 512;
    /** At the most: eight words more, then a mount in four tries and a look at all files and all home blocks. */
    private static final int CALLS_OF_A_STEP = 220;

    /** In which call and mode the power failed, so that a change of the draws can't empty the test unseen. */
    private static final TreeMap<String, Integer> failures = new TreeMap<>();

    public static void main(String[] args) {
        runTests(RecoveryTest.class);
    }

    // "The power can fail at any write to the disk; mounting brings back what was committed."

    static void termPower_drawnRuns_theCommittedIsBroughtBack() {
        for (int seed = 1; seed <= RUNS; seed++) {
            new Run(seed).go();
        }
        for (String call : new String[] {"write", "cut", "rename", "commit", "sync", "flush", "checkpoint", "crash"}) {
            for (int mode : MODES) {
                boolean canFail = mode != FULL || !call.equals("flush");
                due("met: the power fails in " + call + " in mode " + mode, hasFailed(call, mode), canFail);
            }
        }
        for (int mode : MODES) {
            due("met: the power fails in mount in mode " + mode, hasFailed("mount", mode), true);
        }
    }

    private static void countFailure(String call, int mode) {
        failures.merge(call + " in mode " + mode, 1, Integer::sum);
    }

    private static boolean hasFailed(String call, int mode) {
        return failures.getOrDefault(call + " in mode " + mode, 0) >= 5;
    }

    /** The files as a user knows them: by the words that he wrote. */
    private static final class Files {
        final int[] length = new int[6];
        final int[][] words = new int[6][24];

        Files copy() {
            Files c = new Files();
            for (int f = 0; f < 6; f++) {
                c.length[f] = length[f];
                c.words[f] = words[f].clone();
            }
            return c;
        }
    }

    private static final class Run {
        private final int seed;
        private final Random random;
        private final ThreeModeJournal x = new ThreeModeJournal();
        private final int commits;
        private int calls = 0;
        private int mode = ORDERED;
        private int lastValue = 0;

        private Files present = new Files();
        private Files committed = new Files();
        /** Which committed file each file is now, or -1. */
        private final int[] origin = {0, 1, 2, 3, 4, 5};
        /** Outside FULL mode words go home without a commit: what was written to a committed file since. */
        private final List<List<TreeSet<Integer>>> writtenSince = new ArrayList<>();
        /** In WRITEBACK mode the words of a committed file may never have been written home. */
        private final boolean[] wordsAreHome = {true, true, true, true, true, true};

        Run(int seed) {
            this.seed = seed;
            random = new Random(seed);
            commits = 2 + random.nextInt(20);
            for (int f = 0; f < 6; f++) {
                writtenSince.add(new ArrayList<>());
                for (int o = 0; o < 24; o++) {
                    writtenSince.get(f).add(new TreeSet<>());
                }
            }
        }

        void go() {
            startIn(random.nextInt(3));
            while (calls + CALLS_OF_A_STEP <= CALLS) {
                step();
            }
            due(seed + ": no more than 512 calls, " + calls, calls <= CALLS, true);
        }

        private void startIn(int m) {
            calls += 2;
            x.crash();
            due(seed + ": mount", x.mount(m), 0);
            mode = m;
        }

        private void step() {
            int r = random.nextInt(100);
            if (r < commits) {
                commit();
            } else if (r < 40) {
                growBy(random.nextInt(6), 1 + random.nextInt(8));
            } else if (r < 60) {
                int f = random.nextInt(6);
                write(f, random.nextInt(present.length[f] + 1));
            } else if (r < 72) {
                cut(random.nextInt(6));
            } else if (r < 80) {
                rename(random.nextInt(6), random.nextInt(6));
            } else if (r < 84) {
                sync(random.nextInt(6));
            } else if (r < 88) {
                flushOrCheckpoint("flush");
            } else if (r < 92) {
                flushOrCheckpoint("checkpoint");
            } else if (r < 98) {
                calls++;
                x.fuse(random.nextInt(30));
            } else {
                calls++;
                due(seed + ": crash", x.crash(), true);
                recover("crash");
            }
        }

        private void growBy(int f, int n) {
            boolean grows = true;
            for (int i = 0; i < n && grows; i++) {
                grows = write(f, present.length[f]);
            }
        }

        private boolean write(int f, int o) {
            if (o > 23) {
                return false;
            }
            lastValue++;
            boolean wasLarge = isLarge();
            calls++;
            if (!x.write(f, o, lastValue)) {
                dueDownOrNoBlockLeft("write");
                return false;
            }
            if (wasLarge) {
                isCommitted(mode != WRITEBACK, -1);
            }
            present.words[f][o] = lastValue;
            present.length[f] = Math.max(present.length[f], o + 1);
            if (origin[f] >= 0) {
                writtenSince.get(origin[f]).get(o).add(lastValue);
            }
            return true;
        }

        private void cut(int f) {
            if (present.length[f] == 0) {
                return;
            }
            int n = random.nextInt(present.length[f]);
            boolean wasLarge = isLarge();
            calls++;
            if (!x.cut(f, n)) {
                dueDown("cut");
                return;
            }
            if (wasLarge) {
                isCommitted(mode != WRITEBACK, -1);
            }
            present.length[f] = n;
        }

        private void rename(int f, int g) {
            if (f == g) {
                return;
            }
            boolean wasLarge = isLarge();
            calls++;
            if (!x.rename(f, g)) {
                dueDown("rename");
                return;
            }
            if (wasLarge) {
                isCommitted(mode != WRITEBACK, -1);
            }
            present.length[g] = present.length[f];
            present.words[g] = present.words[f].clone();
            origin[g] = origin[f];
            present.length[f] = 0;
            origin[f] = -1;
        }

        private void commit() {
            calls++;
            if (x.commit() == FAILED) {
                recover("commit");
            } else {
                isCommitted(allWordsAreHome(), -1);
            }
        }

        private void sync(int f) {
            calls++;
            if (x.sync(f)) {
                isCommitted(allWordsAreHome(), f);
            } else {
                dueDown("sync");
            }
        }

        private void flushOrCheckpoint(String call) {
            calls++;
            int n = 1 + random.nextInt(4);
            int answer = call.equals("flush") ? x.flush(n) : x.checkpoint(n);
            if (answer == FAILED) {
                recover(call);
            }
        }

        private boolean isLarge() {
            calls++;
            return x.need() > 12;
        }

        private boolean allWordsAreHome() {
            calls++;
            return mode != WRITEBACK || x.dirty() == 0;
        }

        private void isCommitted(boolean allHome, int synced) {
            committed = present.copy();
            for (int f = 0; f < 6; f++) {
                wordsAreHome[f] = allHome || f == synced;
                startOver(f);
            }
        }

        private void startOver(int f) {
            origin[f] = f;
            for (TreeSet<Integer> values : writtenSince.get(f)) {
                values.clear();
            }
        }

        private void dueDown(String call) {
            calls++;
            due(seed + ": mode after " + call + " answered false", x.mode(), NONE);
            recover(call);
        }

        private void dueDownOrNoBlockLeft(String call) {
            calls += 2;
            if (x.mode() == NONE) {
                recover(call);
            } else {
                due(seed + ": no two blocks can be taken", x.free() < 2, true);
            }
        }

        private void recover(String failedIn) {
            countFailure(failedIn, mode);
            int m = random.nextInt(3);
            for (int tries = random.nextInt(4); tries > 0; tries--) {
                calls += 2;
                x.fuse(random.nextInt(12));
                if (x.mount(m) >= 0) {
                    dueBroughtBack(m);
                    return;
                }
                countFailure("mount", m);
            }
            calls += 2;
            x.fuse(-1);
            due(seed + ": mount", x.mount(m) >= 0, true);
            dueBroughtBack(m);
        }

        private void dueBroughtBack(int m) {
            calls++;
            due(seed + ": mode", x.mode(), m);
            for (int f = 0; f < 6; f++) {
                calls++;
                due(seed + ": length of file " + f, x.length(f), committed.length[f]);
                for (int o = 0; o < committed.length[f]; o++) {
                    calls++;
                    int word = x.read(f, o);
                    dueWord(f, o, word);
                    committed.words[f][o] = word;
                }
                startOver(f);
                wordsAreHome[f] = true;
            }
            present = committed.copy();
            mode = m;
            dueHomeBlocks();
        }

        private void dueWord(int f, int o, int word) {
            int was = committed.words[f][o];
            if (mode == FULL) {
                due(seed + ": word " + o + " of file " + f, word, was);
            } else if (wordsAreHome[f]) {
                boolean known = word == was || writtenSince.get(f).get(o).contains(word);
                due(seed + ": word " + o + " of file " + f + ", " + word + ", was there or was written there", known, true);
            }
        }

        /** "Exactly when its length is more than ...", "0 stands where there is no such block", and the map. */
        private void dueHomeBlocks() {
            int[][] home = new int[23][4];
            for (int b = 0; b < 23; b++) {
                for (int w = 0; w < 4; w++) {
                    calls++;
                    home[b][w] = x.home(b, w);
                }
            }
            int map = 0;
            for (int f = 0; f < 6; f++) {
                due(seed + ": length at home of file " + f, home[f][0], committed.length[f]);
                boolean hasIndex = committed.length[f] > 8;
                map = mark(map, home[f][3], hasIndex);
                int[] index = hasIndex && isPool(home[f][3]) ? home[home[f][3]] : new int[4];
                for (int i = 0; i < 6; i++) {
                    int b = i < 2 ? home[f][1 + i] : index[i - 2];
                    map = mark(map, b, committed.length[f] > 4 * i);
                    for (int o = 4 * i; o < 4 * i + 4 && o < committed.length[f] && isPool(b); o++) {
                        due(seed + ": word at home " + o + " of file " + f, home[b][o % 4], committed.words[f][o]);
                    }
                }
            }
            due(seed + ": map", home[6][0], map);
            due(seed + ": words of the map that are 0", home[6][1] == 0 && home[6][2] == 0 && home[6][3] == 0, true);
        }

        private boolean isPool(int b) {
            return b >= 7 && b <= 22;
        }

        private int mark(int map, int b, boolean has) {
            due(seed + ": there is a block " + b, has ? isPool(b) : b == 0, true);
            if (!isPool(b)) {
                return map;
            }
            due(seed + ": block " + b + " has one use", (map & 1 << (b - 7)) == 0, has);
            return map | 1 << (b - 7);
        }
    }
}
