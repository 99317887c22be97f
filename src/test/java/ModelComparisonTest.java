import java.util.ArrayList;
import java.util.List;
import java.util.Random;
import java.util.TreeMap;
import java.util.TreeSet;

/**
 * Long runs of calls, drawn from fixed seeds, on the class and on a second, slower writing of the document; every
 * answer must be the same. No object gets more than the 512 calls that the document speaks of.
 */
public final class ModelComparisonTest {
    private static final int RUNS = 20000;
    private static final int CALLS = 512;
    private static final String[] LOOKS = {
        "mode", "need", "room", "head", "dirty", "free", "writes", "length", "read", "home"};

    /** What the runs came through, so that a change of the draws can't empty the test unseen. */
    private static final TreeMap<String, Integer> met = new TreeMap<>();
    private static int wrong = 0;

    public static void main(String[] args) {
        for (int seed = 1; seed <= RUNS && wrong < 10; seed++) {
            new Run(seed).compare();
        }
        String[] wanted = {
            "failed: checkpoint", "failed: commit", "failed: cut", "failed: flush", "failed: mount", "failed: rename",
            "failed: sync", "failed: write", "large", "log wraps", "made room", "made room of several", "no block left",
            "no second block left", "recovered", "revoked", "revoked copy not recovered", "dead copy not written",
            "dirty block freed", "joined block freed", "index not revoked in FULL", "least block held by last commit"};
        for (String w : wanted) {
            if (met.getOrDefault(w, 0) < 20) {
                wrong++;
                System.out.println("hardly met: " + w + " (" + met.getOrDefault(w, 0) + ")");
            }
        }
        System.out.println(wrong == 0 ? "the class and the model agree" : wrong + " differences");
        if (wrong != 0) {
            System.exit(1);
        }
    }

    private static void meet(String what) {
        met.merge(what, 1, Integer::sum);
    }

    /** One object and one model, with the same calls. */
    private static final class Run {
        private final int seed;
        private final Random random;
        private final ThreeModeJournal x = new ThreeModeJournal();
        private final Model m = new Model();
        private final StringBuilder calls = new StringBuilder();
        private int callsMade = 0;
        private boolean agrees = true;

        Run(int seed) {
            this.seed = seed;
            random = new Random(seed);
        }

        /** Every other run is looked at as a whole at its end; the others go on to the last call. */
        void compare() {
            Draw draw = new Draw(random, m);
            int drawn = CALLS - (seed % 2 == 0 ? lookAtAll(false) : 0);
            while (agrees && callsMade < drawn) {
                String name = draw.name();
                int a = draw.first(name);
                call(name, a, draw.second(name, a), random.nextInt());
            }
            if (agrees && callsMade < CALLS) {
                lookAtAll(true);
            }
            if (agrees && m.up && !m.mapIsTrue()) {
                differ("the model's map is not what its files have");
            }
        }

        private void call(String name, int a, int b, int c) {
            boolean wasUp = m.up;
            int due = m.call(name, a, b, c);
            int got = callOn(x, name, a, b, c);
            callsMade++;
            calls.append(' ').append(name).append('(').append(a).append(", ").append(b).append(", ").append(c).append(')');
            if (wasUp && !m.up && !name.equals("crash")) {
                meet("failed: " + name);
            }
            if (due != got) {
                differ("answered " + got + ", due is " + due);
            }
        }

        private void differ(String how) {
            agrees = false;
            wrong++;
            System.out.println("seed " + seed + ":" + calls + ": " + how);
        }

        /** How many calls it takes to look at everything; they are made if that is wanted. */
        private int lookAtAll(boolean made) {
            int count = 0;
            for (String name : LOOKS) {
                int firsts = name.equals("home") ? 23 : name.equals("length") || name.equals("read") ? 6 : 1;
                int seconds = name.equals("home") ? 4 : name.equals("read") ? 24 : 1;
                for (int i = 0; i < firsts * seconds && agrees; i++) {
                    count++;
                    if (made) {
                        call(name, i / seconds, i % seconds, 0);
                    }
                }
            }
            return count;
        }
    }

    private static int callOn(ThreeModeJournal x, String name, int a, int b, int c) {
        switch (name) {
            case "write": return x.write(a, b, c) ? 1 : 0;
            case "cut": return x.cut(a, b) ? 1 : 0;
            case "rename": return x.rename(a, b) ? 1 : 0;
            case "read": return x.read(a, b);
            case "length": return x.length(a);
            case "commit": return x.commit();
            case "sync": return x.sync(a) ? 1 : 0;
            case "flush": return x.flush(a);
            case "checkpoint": return x.checkpoint(a);
            case "fuse": x.fuse(a); return 0;
            case "crash": return x.crash() ? 1 : 0;
            case "mount": return x.mount(a);
            case "mode": return x.mode();
            case "home": return x.home(a, b);
            case "need": return x.need();
            case "room": return x.room();
            case "head": return x.head();
            case "dirty": return x.dirty();
            case "free": return x.free();
            default: return x.writes();
        }
    }

    /** Draws calls that come far: files grow, logs fill, fuses are short, and a few arguments are wrong. */
    private static final class Draw {
        private final Random random;
        private final Model m;
        private final int commits;
        private final int cuts;
        private final int fuses;
        private int grow = 0;
        private int growing = 0;

        Draw(Random random, Model m) {
            this.random = random;
            this.m = m;
            commits = 1 + random.nextInt(12);
            cuts = 1 + random.nextInt(12);
            fuses = random.nextInt(4);
        }

        String name() {
            if (random.nextInt(3) == 0) {
                return LOOKS[random.nextInt(LOOKS.length)];
            }
            if (!m.up) {
                int r = random.nextInt(10);
                return r < 6 ? "mount" : r < 8 ? "fuse" : r == 8 ? "crash" : anyName();
            }
            if (grow > 0) {
                grow--;
                return "write";
            }
            int r = random.nextInt(100);
            if (r < commits) return "commit";
            r -= commits;
            if (r < cuts) return "cut";
            r -= cuts;
            if (r < cuts / 2 + 1) return "rename";
            r -= cuts / 2 + 1;
            if (r < fuses) return "fuse";
            r -= fuses;
            if (r < 2) return "sync";
            if (r < 4) return "flush";
            if (r < 6) return "checkpoint";
            if (r < 7) return "crash";
            if (r < 8) return "mount";
            if (r < 14) {
                growing = random.nextInt(6);
                grow = random.nextInt(20);
            }
            return "write";
        }

        private String anyName() {
            String[] all = {"write", "cut", "rename", "commit", "sync", "flush", "checkpoint"};
            return all[random.nextInt(all.length)];
        }

        int first(String name) {
            switch (name) {
                case "home": return random.nextInt(25) - 1;
                case "fuse": return random.nextInt(6) == 0 ? -random.nextInt(5) : random.nextInt(random.nextBoolean() ? 6 : 40);
                case "mount": return random.nextInt(12) == 0 ? oddNumber(3) : random.nextInt(3);
                case "flush": case "checkpoint": return random.nextInt(10) == 0 ? oddNumber(1) : 1 + random.nextInt(6);
                default: return grow > 0 ? growing : random.nextInt(30) == 0 ? oddNumber(6) : random.nextInt(6);
            }
        }

        int second(String name, int a) {
            int size = a >= 0 && a < 6 && m.up ? m.present[a][0] : 0;
            int r = random.nextInt(20);
            switch (name) {
                case "home": return random.nextInt(6) - 1;
                case "read": return r == 0 ? oddNumber(24) : random.nextInt(size + 2) - 1;
                case "write": return r == 0 && grow == 0 ? oddNumber(24) : r < 4 ? random.nextInt(size + 2) : size;
                case "cut": return r == 0 ? oddNumber(25) : r < 4 ? Math.max(0, size - 1) : random.nextInt(size + 1);
                default: return r == 0 ? oddNumber(6) : random.nextInt(6);
            }
        }

        private int oddNumber(int top) {
            int[] odd = {-1, top, top + 1, Integer.MIN_VALUE, Integer.MAX_VALUE, -2, 0};
            return odd[random.nextInt(odd.length)];
        }
    }

    private static final class PowerFailure extends RuntimeException {
        private static final long serialVersionUID = 1L;
    }

    private static final class Transaction {
        final TreeMap<Integer, int[]> copies = new TreeMap<>();
        final TreeSet<Integer> revoked = new TreeSet<>();
        int size;
    }

    /** The document once more, word by word, with lists, sets and an exception for the power. */
    private static final class Model {
        final int[][] home = new int[23][4];
        final List<Transaction> log = new ArrayList<>();
        int head = 0;
        int fuse = -1;
        int writes = 0;

        boolean up = true;
        int mode = 1;
        int[][] present = new int[23][4];
        final TreeSet<Integer> joined = new TreeSet<>();
        final TreeSet<Integer> revoked = new TreeSet<>();
        final List<Integer> dirty = new ArrayList<>();
        int mapAtCommit = 0;

        int call(String name, int a, int b, int c) {
            boolean answersTruth = List.of("write", "cut", "rename", "sync", "crash").contains(name);
            try {
                switch (name) {
                    case "write": return write(a, b, c) ? 1 : 0;
                    case "cut": return cut(a, b) ? 1 : 0;
                    case "rename": return rename(a, b) ? 1 : 0;
                    case "read": return read(a, b);
                    case "length": return up && isFile(a) ? present[a][0] : -1;
                    case "commit": return up ? commit() : -1;
                    case "sync": return sync(a) ? 1 : 0;
                    case "flush": return flush(a);
                    case "checkpoint": return checkpoint(a);
                    case "fuse": fuse = Math.max(a, -1); return 0;
                    case "crash": return crash() ? 1 : 0;
                    case "mount": return mount(a);
                    case "mode": return up ? mode : -1;
                    case "home": return a >= 0 && a <= 22 && b >= 0 && b <= 3 ? home[a][b] : 0;
                    case "need": return up ? need() : -1;
                    case "room": return up ? room() : -1;
                    case "head": return up ? head : -1;
                    case "dirty": return up ? dirty.size() : -1;
                    case "free": return up ? takeable().size() : -1;
                    default: return writes;
                }
            } catch (PowerFailure failure) {
                return answersTruth ? 0 : -2;
            }
        }

        void powerFails() {
            up = false;
            fuse = -1;
            present = null;
            joined.clear();
            revoked.clear();
            dirty.clear();
        }

        void oneWrite() {
            if (fuse == 0) {
                powerFails();
                throw new PowerFailure();
            }
            fuse = fuse > 0 ? fuse - 1 : fuse;
            writes++;
        }

        void writeHome(int b, int[] words) {
            oneWrite();
            home[b] = words.clone();
        }

        boolean inUse(int b) {
            return (present[6][0] & 1 << (b - 7)) != 0;
        }

        List<Integer> takeable() {
            List<Integer> all = new ArrayList<>();
            for (int b = 7; b <= 22; b++) {
                if (!inUse(b) && (mapAtCommit & 1 << (b - 7)) == 0) {
                    all.add(b);
                }
            }
            return all;
        }

        int take() {
            for (int b = 7; !takeable().contains(b); b++) {
                if (!inUse(b)) {
                    meet("least block held by last commit");
                }
            }
            int b = takeable().get(0);
            present[6][0] |= 1 << (b - 7);
            present[b] = new int[4];
            joined.add(6);
            return b;
        }

        void freeBlock(int b, boolean index) {
            present[6][0] &= ~(1 << (b - 7));
            if (joined.remove(b)) {
                meet("joined block freed");
            }
            if (dirty.remove(Integer.valueOf(b))) {
                meet("dirty block freed");
            }
            joined.add(6);
            boolean live = false;
            for (int t = 0; t < log.size(); t++) {
                live |= isLive(t, b);
            }
            if (index && live) {
                meet(mode == 2 ? "index not revoked in FULL" : "revoked");
                if (mode != 2) {
                    revoked.add(b);
                }
            }
        }

        boolean isLive(int t, int b) {
            if (!log.get(t).copies.containsKey(b)) {
                return false;
            }
            for (Transaction later : log.subList(t + 1, log.size())) {
                if (later.copies.containsKey(b) || later.revoked.contains(b)) {
                    return false;
                }
            }
            return true;
        }

        int need() {
            int c = joined.size();
            return c == 0 ? 0 : c + (int) Math.ceil(c / 4.0) + (int) Math.ceil(revoked.size() / 4.0) + 1;
        }

        int room() {
            return 24 - log.stream().mapToInt(t -> t.size).sum();
        }

        void writeDirtyHome(int b) {
            writeHome(b, present[b]);
            dirty.remove(Integer.valueOf(b));
        }

        int commit() {
            if (mode == 1) {
                for (int b : List.copyOf(dirty)) {
                    writeDirtyHome(b);
                }
            }
            int need = need();
            if (joined.isEmpty()) {
                return 0;
            }
            int k = 0;
            int places = room();
            while (places < need) {
                places += log.get(k).size;
                k++;
            }
            if (k > 0) {
                meet(k > 1 ? "made room of several" : "made room");
                checkpointTogether(k);
            }
            for (int i = 0; i < need; i++) {
                oneWrite();
            }
            Transaction t = new Transaction();
            for (int b : joined) {
                t.copies.put(b, present[b].clone());
            }
            t.revoked.addAll(revoked);
            t.size = need;
            log.add(t);
            if (head + need > 24) {
                meet("log wraps");
            }
            head = (head + need) % 24;
            joined.clear();
            revoked.clear();
            mapAtCommit = present[6][0];
            return need;
        }

        void checkpointTogether(int k) {
            for (int t = 0; t < k; t++) {
                for (int b : log.get(t).copies.keySet()) {
                    if (isLive(t, b)) {
                        writeHome(b, log.get(t).copies.get(b));
                    } else {
                        meet("dead copy not written");
                    }
                }
            }
            oneWrite();
            log.subList(0, k).clear();
        }

        void commitIfLarge() {
            if (need() > 12) {
                meet("large");
                commit();
            }
        }

        int dataBlock(int f, int i) {
            return i < 2 ? present[f][1 + i] : present[present[f][3]][i - 2];
        }

        boolean isFile(int f) {
            return f >= 0 && f <= 5;
        }

        boolean write(int f, int o, int v) {
            if (!up || !isFile(f) || o < 0 || o > 23 || o > present[f][0]) {
                return false;
            }
            boolean grows = o == present[f][0];
            int takes = !grows || o % 4 != 0 ? 0 : o == 8 ? 2 : 1;
            if (takeable().size() < takes) {
                meet(takes == 2 && takeable().size() == 1 ? "no second block left" : "no block left");
                return false;
            }
            commitIfLarge();
            if (grows && o % 4 == 0) {
                int i = o / 4;
                if (o == 8) {
                    present[f][3] = take();
                }
                int b = take();
                if (i < 2) {
                    present[f][1 + i] = b;
                } else {
                    present[present[f][3]][i - 2] = b;
                    joined.add(present[f][3]);
                }
            }
            if (grows) {
                present[f][0] = o + 1;
                joined.add(f);
            }
            int b = dataBlock(f, o / 4);
            present[b][o % 4] = v;
            if (mode == 2) {
                joined.add(b);
            } else if (!dirty.contains(b)) {
                dirty.add(b);
            }
            return true;
        }

        /** Frees what a file of length n does not have. */
        void freeBehind(int f, int n) {
            int length = present[f][0];
            int index = present[f][3];
            for (int i = 0; i <= 5; i++) {
                if (length > 4 * i && n <= 4 * i) {
                    freeBlock(dataBlock(f, i), false);
                    if (i < 2) {
                        present[f][1 + i] = 0;
                    } else {
                        present[index][i - 2] = 0;
                        if (n > 8) {
                            joined.add(index);
                        }
                    }
                }
            }
            if (length > 8 && n <= 8) {
                freeBlock(index, true);
                present[f][3] = 0;
            }
        }

        boolean cut(int f, int n) {
            if (!up || !isFile(f) || n < 0 || n >= present[f][0]) {
                return false;
            }
            commitIfLarge();
            freeBehind(f, n);
            present[f][0] = n;
            joined.add(f);
            return true;
        }

        boolean rename(int f, int g) {
            if (!up || !isFile(f) || !isFile(g) || f == g) {
                return false;
            }
            commitIfLarge();
            freeBehind(g, 0);
            present[g] = present[f];
            present[f] = new int[4];
            joined.add(f);
            joined.add(g);
            return true;
        }

        int read(int f, int o) {
            return up && isFile(f) && o >= 0 && o < present[f][0] ? present[dataBlock(f, o / 4)][o % 4] : 0;
        }

        boolean sync(int f) {
            if (!up || !isFile(f)) {
                return false;
            }
            if (mode == 0) {
                TreeSet<Integer> own = blocksOf(f);
                for (int b : List.copyOf(dirty)) {
                    if (own.contains(b)) {
                        writeDirtyHome(b);
                    }
                }
            }
            commit();
            return true;
        }

        int flush(int n) {
            if (!up || n < 1) {
                return -1;
            }
            List<Integer> first = List.copyOf(dirty.subList(0, Math.min(n, dirty.size())));
            for (int b : first) {
                writeDirtyHome(b);
            }
            return first.size();
        }

        int checkpoint(int n) {
            if (!up || n < 1) {
                return -1;
            }
            int before = writes;
            if (!log.isEmpty()) {
                checkpointTogether(Math.min(n, log.size()));
            }
            return writes - before;
        }

        boolean crash() {
            if (!up) {
                return false;
            }
            powerFails();
            return true;
        }

        int mount(int m) {
            if (up || m < 0 || m > 2) {
                return -1;
            }
            try {
                recover();
            } catch (PowerFailure failure) {
                meet("failed: mount");
                throw failure;
            }
            int had = log.size();
            log.clear();
            if (had > 0) {
                meet("recovered");
            }
            present = new int[23][];
            for (int b = 0; b < 23; b++) {
                present[b] = home[b].clone();
            }
            mapAtCommit = present[6][0];
            mode = m;
            up = true;
            return had;
        }

        private void recover() {
            for (int t = 0; t < log.size(); t++) {
                for (int b : log.get(t).copies.keySet()) {
                    boolean revokedLater = false;
                    for (Transaction later : log.subList(t + 1, log.size())) {
                        revokedLater |= later.revoked.contains(b);
                    }
                    if (revokedLater) {
                        meet("revoked copy not recovered");
                    } else {
                        writeHome(b, log.get(t).copies.get(b));
                    }
                }
            }
            if (!log.isEmpty()) {
                oneWrite();
            }
        }

        TreeSet<Integer> blocksOf(int f) {
            TreeSet<Integer> own = new TreeSet<>();
            for (int i = 0; i <= 5 && present[f][0] > 4 * i; i++) {
                own.add(dataBlock(f, i));
            }
            return own;
        }

        /** "Bit b - 7 of its word 0 is 1 exactly when pool block b is in use", and no block is used twice. */
        boolean mapIsTrue() {
            int map = 0;
            for (int f = 0; f < 6; f++) {
                TreeSet<Integer> own = blocksOf(f);
                if (present[f][3] != 0) {
                    own.add(present[f][3]);
                }
                for (int b : own) {
                    if ((map & 1 << (b - 7)) != 0) {
                        return false;
                    }
                    map |= 1 << (b - 7);
                }
            }
            return map == present[6][0];
        }
    }
}
