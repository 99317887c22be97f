import java.lang.reflect.InvocationTargetException;
import java.lang.reflect.Method;
import java.lang.reflect.Modifier;
import java.util.TreeMap;

/** What the tests share: a runner, answers held against those that are due, and objects in a wanted state. */
abstract class Checks {
    static final int WRITEBACK = ThreeModeJournal.WRITEBACK;
    static final int ORDERED = ThreeModeJournal.ORDERED;
    static final int FULL = ThreeModeJournal.FULL;
    static final int NONE = ThreeModeJournal.NONE;
    static final int FAILED = ThreeModeJournal.FAILED;
    static final int[] MODES = {WRITEBACK, ORDERED, FULL};
    static final int[] NO_FILES = {-1, 6, 7, 22, Integer.MIN_VALUE, Integer.MAX_VALUE};
    /** "All, if there are fewer": more than there ever are. */
    static final int ALL = 99;
    /** Behind a real fault a drawn run would tell thousands; all are counted. */
    private static final int MOST_TOLD = 200;

    private static String test = "";
    private static int checked = 0;
    private static int wrong = 0;

    interface Maker {
        ThreeModeJournal make();
    }

    interface Call {
        int on(ThreeModeJournal x);
    }

    /** Runs each test of the class: its methods that are not private, each named after a promise or a term. */
    static void runTests(Class<?> tests) {
        TreeMap<String, Method> found = new TreeMap<>();
        for (Method m : tests.getDeclaredMethods()) {
            if (!Modifier.isPrivate(m.getModifiers()) && !m.getName().equals("main")) {
                found.put(m.getName(), m);
            }
        }
        for (Method m : found.values()) {
            run(m);
        }
        System.out.println(found.size() + " tests, " + checked + " answers, " + wrong + " not as due");
        if (wrong != 0 || found.isEmpty()) {
            System.exit(1);
        }
    }

    private static void run(Method m) {
        test = m.getName();
        int before = checked;
        if (!test.matches("(promise\\d+|term[A-Z]\\w*|readme)_\\w+")) {
            wrong++;
            System.out.println(test + ": is not named after a promise or a term");
        }
        try {
            m.invoke(null);
        } catch (InvocationTargetException | IllegalAccessException e) {
            wrong++;
            System.out.println(test + ": threw " + e.getCause());
        }
        if (checked == before) {
            wrong++;
            System.out.println(test + ": checks nothing");
        }
    }

    static void due(String what, int got, int want) {
        due(what, Integer.toString(got), Integer.toString(want));
    }

    static void due(String what, boolean got, boolean want) {
        due(what, Boolean.toString(got), Boolean.toString(want));
    }

    static void due(String what, String got, String want) {
        checked++;
        if (!got.equals(want)) {
            wrong++;
            if (wrong <= MOST_TOLD) {
                System.out.println(test + ", line " + lineOfTest() + ": " + what + " answered " + got + ", due is " + want);
            }
        }
    }

    private static int lineOfTest() {
        for (StackTraceElement at : Thread.currentThread().getStackTrace()) {
            if (at.getMethodName().equals(test)) {
                return at.getLineNumber();
            }
        }
        return 0;
    }

    static void dueHome(ThreeModeJournal x, int b, int w0, int w1, int w2, int w3) {
        int[] want = {w0, w1, w2, w3};
        for (int w = 0; w < 4; w++) {
            due("home(" + b + ", " + w + ")", x.home(b, w), want[w]);
        }
    }

    static int truth(boolean answer) {
        return answer ? 1 : 0;
    }

    /**
     * The call is answered so, and the object can't be told from a twin that was not called. A twin, because what is
     * seen before and after on one object would be more than its 512 calls.
     */
    static void dueRefused(String call, Maker maker, Call refused, int want) {
        ThreeModeJournal x = maker.make();
        due(call, refused.on(x), want);
        due("all that is seen after " + call, picture(x), picture(maker.make()));
    }

    /** Everything that can be seen of the object, and then what becomes of its fuse, dirty blocks, transaction and log. */
    private static String picture(ThreeModeJournal x) {
        StringBuilder s = new StringBuilder();
        seen(x, s);
        s.append(" flush ").append(x.flush(1)).append(" commit ").append(x.commit());
        // Not when down: should the call refused have been crash(), this one must not do to the twin what it did.
        if (x.mode() != NONE) {
            s.append(" crash ").append(x.crash());
        }
        s.append(" mount ").append(x.mount(WRITEBACK)).append(" mount ").append(x.mount(WRITEBACK));
        seen(x, s);
        return s.toString();
    }

    private static void seen(ThreeModeJournal x, StringBuilder s) {
        s.append(" mode ").append(x.mode()).append(" need ").append(x.need()).append(" room ").append(x.room());
        s.append(" head ").append(x.head()).append(" dirty ").append(x.dirty()).append(" free ").append(x.free());
        s.append(" writes ").append(x.writes()).append(" files");
        for (int f = 0; f < 6; f++) {
            int length = x.length(f);
            s.append(' ').append(length).append(':');
            for (int o = 0; o < length; o++) {
                s.append(' ').append(x.read(f, o));
            }
        }
        s.append(" home");
        for (int b = 0; b < 23; b++) {
            for (int w = 0; w < 4; w++) {
                s.append(' ').append(x.home(b, w));
            }
        }
    }

    static ThreeModeJournal in(int mode) {
        ThreeModeJournal x = new ThreeModeJournal();
        x.crash();
        due("mount", x.mount(mode), 0);
        return x;
    }

    static int wordOf(int f, int o) {
        return 1000 * (f + 1) + o;
    }

    static void grow(ThreeModeJournal x, int f, int n) {
        for (int o = x.length(f); o < n; o++) {
            due("write(" + f + ", " + o + ")", x.write(f, o, wordOf(f, o)), true);
        }
    }

    /** Brings everything home, so that home() shows it. */
    static void settle(ThreeModeJournal x) {
        x.flush(ALL);
        x.commit();
        x.checkpoint(ALL);
    }

    static ThreeModeJournal down() {
        ThreeModeJournal x = new ThreeModeJournal();
        grow(x, 0, 3);
        x.commit();
        x.crash();
        return x;
    }

    /** In the log are two transactions; something is joined, revoked (but in FULL mode) and dirty, and a fuse burns. */
    static ThreeModeJournal busy(int mode) {
        ThreeModeJournal x = in(mode);
        grow(x, 0, 9);
        x.commit();
        grow(x, 1, 5);
        x.commit();
        x.cut(0, 8);
        grow(x, 2, 1);
        x.write(1, 4, 71);
        x.write(0, 0, 72);
        x.fuse(7);
        return x;
    }

    /** Down, with two transactions in the log, and a fuse that the next mount does not outlast. */
    static ThreeModeJournal busyDown() {
        ThreeModeJournal x = busy(ORDERED);
        x.crash();
        x.fuse(3);
        return x;
    }

    /** Files 0 and 1 have 7 blocks each and file 2 has 2: the whole pool. */
    static void fillPool(ThreeModeJournal x) {
        grow(x, 0, 24);
        grow(x, 1, 24);
        grow(x, 2, 8);
        due("free", x.free(), 0);
        x.commit();
    }

    /** Fifteen data blocks and one index: no more can be dirty, since six files without an index have twelve. */
    static void fifteenDirtyBlocks(ThreeModeJournal x) {
        for (int f = 0; f < 5; f++) {
            grow(x, f, 8);
        }
        grow(x, 5, 20);
        due("dirty", x.dirty(), 15);
        due("free", x.free(), 0);
    }

    /** Nine blocks are joined: four inodes, the map, four data blocks. That is one more than a need of twelve allows. */
    static ThreeModeJournal large() {
        ThreeModeJournal x = in(FULL);
        for (int f = 0; f < 4; f++) {
            grow(x, f, 1);
        }
        due("need", x.need(), 13);
        return x;
    }

    /** Eight blocks are joined (six inodes, the map, an index) and one index is revoked. */
    static ThreeModeJournal needOfTwelve() {
        ThreeModeJournal x = new ThreeModeJournal();
        grow(x, 0, 9);
        grow(x, 1, 9);
        due("commit of two inodes, the map, two indexes", x.commit(), 8);
        x.cut(0, 8);
        grow(x, 1, 13);
        for (int f = 2; f < 6; f++) {
            x.write(f, 0, 1);
        }
        due("need", x.need(), 12);
        return x;
    }

    /** Joins the inodes of that many of the files, all empty, 2 to 6, and commits: 4, 5, 6, 8 or 9 log blocks. */
    static void commitInodes(ThreeModeJournal x, int inodes) {
        joinInodes(x, inodes);
        int[] sizes = {0, 0, 4, 5, 6, 8, 9};
        due("commit of " + inodes + " inodes", x.commit(), sizes[inodes]);
    }

    static void joinInodes(ThreeModeJournal x, int inodes) {
        for (int f = 1; f < inodes; f++) {
            due("rename", x.rename(f, 0), true);
        }
    }

    /** Transactions of 4, 3, 3, 3, 4, 3, 3 blocks: one log block is left. */
    static ThreeModeJournal almostFullLog() {
        ThreeModeJournal x = new ThreeModeJournal();
        int[] sizes = {4, 3, 3, 3, 4, 3, 3};
        for (int o = 0; o < 7; o++) {
            grow(x, 0, o + 1);
            due("commit", x.commit(), sizes[o]);
        }
        due("room", x.room(), 1);
        due("head", x.head(), 23);
        due("writes", x.writes(), 30);
        return x;
    }
}
