/** A small file system of six files with a journal, in one of three modes. */
public final class ThreeModeJournal {
    public static final int WRITEBACK = 0;
    public static final int ORDERED = 1;
    public static final int FULL = 2;
    public static final int NONE = -1;
    public static final int FAILED = -2;

    private static final int FILES = 6;
    private static final int MAP = 6;
    private static final int FIRST_POOL = 7;
    private static final int BLOCKS = 23;
    private static final int POOL_BLOCKS = 16;
    private static final int POOL_BITS = 0xFFFF;
    private static final int WORDS = 4;

    private static final int MAX_LENGTH = 24;
    private static final int DATA_BLOCKS = 6;
    private static final int INODE_DATA_BLOCKS = 2;
    private static final int LENGTH_WORD = 0;
    private static final int FIRST_DATA_WORD = 1;
    private static final int INDEX_WORD = 3;

    private static final int LOG_PLACES = 24;
    private static final int NAMES_PER_BLOCK = 4;
    private static final int LARGE = 12;
    /** Even a transaction with one copy takes three log blocks: its name, itself, the commit block. */
    private static final int MAX_TRANSACTIONS = 8;
    private static final int NO_FUSE = -1;

    private final Power power;
    private final Disk disk;
    private final Memory memory;
    private int currentMode;

    public ThreeModeJournal() {
        disk = new Disk();
        power = disk.power;
        memory = new Memory();
        currentMode = ORDERED;
    }

    public boolean write(int f, int o, int v) {
        if (!power.on || !isFile(f) || o < 0 || o >= MAX_LENGTH) {
            return false;
        }
        int oldLength = memory.fileLength(f);
        if (o > oldLength || blocksToTake(o, oldLength) > memory.takeableCount()) {
            return false;
        }
        if (!commitIfLarge()) {
            return false;
        }
        if (o == oldLength) {
            growByOne(f, oldLength);
        }
        setDataWord(f, o, v);
        return true;
    }

    public boolean cut(int f, int n) {
        if (!power.on || !isFile(f) || n < 0 || n >= memory.fileLength(f)) {
            return false;
        }
        if (!commitIfLarge()) {
            return false;
        }
        shorten(f, n);
        return true;
    }

    public boolean rename(int f, int g) {
        if (!power.on || !isFile(f) || !isFile(g) || f == g) {
            return false;
        }
        if (!commitIfLarge()) {
            return false;
        }
        shorten(g, 0);
        memory.moveInode(f, g);
        return true;
    }

    public int read(int f, int o) {
        if (!power.on || !isFile(f) || o < 0 || o >= memory.fileLength(f)) {
            return 0;
        }
        return memory.word(memory.dataBlock(f, o / WORDS), o % WORDS);
    }

    public int length(int f) {
        return power.on && isFile(f) ? memory.fileLength(f) : NONE;
    }

    public int commit() {
        return power.on ? commitRunning() : NONE;
    }

    public boolean sync(int f) {
        if (!power.on || !isFile(f)) {
            return false;
        }
        if (currentMode == WRITEBACK && !writeDirtyOfFile(f)) {
            return false;
        }
        return commitRunning() != FAILED;
    }

    public int flush(int n) {
        if (!power.on || n < 1) {
            return NONE;
        }
        int due = Math.min(n, memory.dirtyCount);
        return writeFirstDirty(due) ? due : FAILED;
    }

    public int checkpoint(int n) {
        if (!power.on || n < 1) {
            return NONE;
        }
        int before = power.writesMade;
        return disk.checkpointOldest(Math.min(n, disk.log.count)) ? power.writesMade - before : FAILED;
    }

    public void fuse(int k) {
        power.fuseLeft = k < 0 ? NO_FUSE : k;
    }

    public boolean crash() {
        if (!power.on) {
            return false;
        }
        power.on = false;
        power.fuseLeft = NO_FUSE;
        return true;
    }

    public int mount(int m) {
        if (power.on || m < WRITEBACK || m > FULL) {
            return NONE;
        }
        int recovered = disk.log.count;
        if (!disk.recover()) {
            return FAILED;
        }
        memory.load(disk.homeWords);
        currentMode = m;
        power.on = true;
        return recovered;
    }

    public int mode() {
        return power.on ? currentMode : NONE;
    }

    public int home(int b, int w) {
        return isWord(b, w) ? disk.homeWords[b * WORDS + w] : 0;
    }

    public int need() {
        return power.on ? memory.logBlocksNeeded() : NONE;
    }

    public int room() {
        return power.on ? disk.log.freePlaces() : NONE;
    }

    public int head() {
        return power.on ? disk.log.next : NONE;
    }

    public int dirty() {
        return power.on ? memory.dirtyCount : NONE;
    }

    public int free() {
        return power.on ? memory.takeableCount() : NONE;
    }

    public int writes() {
        return power.writesMade;
    }

    private static boolean isFile(int f) {
        return f >= 0 && f < FILES;
    }

    private static boolean isBlock(int b) {
        return b >= 0 && b < BLOCKS;
    }

    private static boolean isPoolBlock(int b) {
        return b >= FIRST_POOL && b < BLOCKS;
    }

    private static boolean isWord(int b, int w) {
        return b >= 0 && b < BLOCKS && w >= 0 && w < WORDS;
    }

    private static boolean hasBlock(int set, int b) {
        return isBlock(b) && (set >> b & 1) != 0;
    }

    private static int blocksNaming(int names) {
        return (names + NAMES_PER_BLOCK - 1) / NAMES_PER_BLOCK;
    }

    /** How many blocks of data a file of that length has. */
    private static int dataBlocksFor(int fileLength) {
        return (fileLength + WORDS - 1) / WORDS;
    }

    private static int blocksToTake(int o, int oldLength) {
        if (o != oldLength || o % WORDS != 0) {
            return 0;
        }
        return o / WORDS == INODE_DATA_BLOCKS ? 2 : 1;
    }

    private void growByOne(int f, int oldLength) {
        if (oldLength % WORDS == 0) {
            addDataBlock(f, oldLength / WORDS);
        }
        memory.setWord(f, LENGTH_WORD, oldLength + 1);
        memory.join(f);
    }

    private void addDataBlock(int f, int i) {
        if (i == INODE_DATA_BLOCKS) {
            memory.setWord(f, INDEX_WORD, memory.takeBlock());
        }
        memory.putDataBlock(f, i, memory.takeBlock());
    }

    private void setDataWord(int f, int o, int v) {
        int b = memory.dataBlock(f, o / WORDS);
        memory.setWord(b, o % WORDS, v);
        if (currentMode == FULL) {
            memory.join(b);
        } else {
            memory.makeDirty(b);
        }
    }

    private void shorten(int f, int n) {
        int had = dataBlocksFor(memory.fileLength(f));
        int kept = dataBlocksFor(n);
        for (int i = kept; i < had && i < DATA_BLOCKS; i++) {
            memory.freeBlock(memory.dataBlock(f, i));
            memory.putDataBlock(f, i, 0);
        }
        // Emptying its entries has joined the index; freeing it here takes it out again.
        if (had > INODE_DATA_BLOCKS && kept <= INODE_DATA_BLOCKS) {
            freeIndex(f);
        }
        memory.setWord(f, LENGTH_WORD, n);
        memory.join(f);
    }

    private void freeIndex(int f) {
        int index = memory.word(f, INDEX_WORD);
        memory.freeBlock(index);
        memory.setWord(f, INDEX_WORD, 0);
        // In FULL mode the next user of the block is logged too, and so overrides the old copy.
        if (currentMode != FULL && disk.log.hasLiveCopy(index)) {
            memory.revoke(index);
        }
    }

    /** False when the power failed in the commit. */
    private boolean commitIfLarge() {
        return memory.logBlocksNeeded() <= LARGE || commitRunning() != FAILED;
    }

    private int commitRunning() {
        if (currentMode == ORDERED && !writeFirstDirty(memory.dirtyCount)) {
            return FAILED;
        }
        int size = memory.logBlocksNeeded();
        if (size == 0) {
            return 0;
        }
        if (!disk.checkpointOldest(disk.log.oldestInTheWayOf(size)) || !disk.writeTransaction(size, memory)) {
            return FAILED;
        }
        memory.startTransaction();
        return size;
    }

    private boolean writeFirstDirty(int n) {
        for (int i = 0; i < n; i++) {
            if (!writeDirtyHome(memory.dirtyAt(0))) {
                return false;
            }
        }
        return true;
    }

    private boolean writeDirtyOfFile(int f) {
        int all = memory.dirtyCount;
        int passed = 0;
        for (int i = 0; i < all; i++) {
            int b = memory.dirtyAt(passed);
            if (!memory.isDataBlockOf(f, b)) {
                passed++;
            } else if (!writeDirtyHome(b)) {
                return false;
            }
        }
        return true;
    }

    private boolean writeDirtyHome(int b) {
        if (!disk.writeHome(b, memory.words, b * WORDS)) {
            return false;
        }
        memory.makeClean(b);
        return true;
    }

    /** Whether the system is up, and what may still be written before the power fails. */
    private static final class Power {
        private boolean on = true;
        private int fuseLeft = NO_FUSE;
        private int writesMade = 0;

        /** One write is due: false when the power fails instead. */
        boolean makeWrite() {
            if (fuseLeft == 0) {
                on = false;
                fuseLeft = NO_FUSE;
                return false;
            }
            if (fuseLeft > 0) {
                fuseLeft--;
            }
            writesMade++;
            return true;
        }
    }

    /** The home blocks and the log; what is written here outlives a power failure. */
    private static final class Disk {
        private final Power power = new Power();
        private final int[] homeWords = new int[BLOCKS * WORDS];
        private final Log log = new Log();

        boolean writeHome(int b, int[] source, int from) {
            if (!power.makeWrite()) {
                return false;
            }
            if (isBlock(b) && from >= 0 && from + WORDS <= source.length) {
                System.arraycopy(source, from, homeWords, b * WORDS, WORDS);
            }
            return true;
        }

        /** The log's words are laid down at the end: nobody sees them before the commit block is written. */
        boolean writeTransaction(int size, Memory memory) {
            for (int i = 0; i < size; i++) {
                if (!power.makeWrite()) {
                    return false;
                }
            }
            log.append(size, memory);
            return true;
        }

        boolean checkpointOldest(int k) {
            for (int t = 0; t < k; t++) {
                if (!writeCopiesHome(t, log.liveCopies(t))) {
                    return false;
                }
            }
            return dropOldest(k);
        }

        boolean recover() {
            for (int t = 0; t < log.count; t++) {
                if (!writeCopiesHome(t, log.copiesToRecover(t))) {
                    return false;
                }
            }
            return dropOldest(log.count);
        }

        private boolean writeCopiesHome(int t, int blocks) {
            for (int b = 0; b < BLOCKS; b++) {
                if (hasBlock(blocks, b) && !writeHome(b, log.words, log.copyOffset(t, b))) {
                    return false;
                }
            }
            return true;
        }

        /** Writes the header, which is what takes transactions out of the log. */
        private boolean dropOldest(int k) {
            if (k == 0) {
                return true;
            }
            if (!power.makeWrite()) {
                return false;
            }
            log.forgetOldest(k);
            return true;
        }
    }

    /** The transactions in the log, numbered from the oldest, 0; a set of blocks is an int with bit b for block b. */
    private static final class Log {
        private final int[] words = new int[LOG_PLACES * WORDS];
        private final int[] starts = new int[MAX_TRANSACTIONS];
        private final int[] sizes = new int[MAX_TRANSACTIONS];
        private final int[] copied = new int[MAX_TRANSACTIONS];
        private final int[] revoked = new int[MAX_TRANSACTIONS];
        private int oldest = 0;
        private int count = 0;
        private int next = 0;

        int freePlaces() {
            int places = LOG_PLACES;
            for (int t = 0; t < count; t++) {
                places -= sizes[slot(t)];
            }
            return places;
        }

        /** How many of the oldest transactions must go, at least, so that this many places are free. */
        int oldestInTheWayOf(int size) {
            int places = freePlaces();
            int k = 0;
            while (k < count && places < size) {
                places += sizes[slot(k)];
                k++;
            }
            return k;
        }

        int liveCopies(int t) {
            return copied[slot(t)] & ~(unionBehind(t, copied) | unionBehind(t, revoked));
        }

        int copiesToRecover(int t) {
            return copied[slot(t)] & ~unionBehind(t, revoked);
        }

        boolean hasLiveCopy(int b) {
            for (int t = 0; t < count; t++) {
                if (hasBlock(liveCopies(t), b)) {
                    return true;
                }
            }
            return false;
        }

        /** Where the words of the copy stand: copies lie in the order of their numbers, a naming block before each four. */
        int copyOffset(int t, int b) {
            int rank = Integer.bitCount(copied[slot(t)] & ((1 << b) - 1));
            int place = starts[slot(t)] + rank + rank / NAMES_PER_BLOCK + 1;
            return place % LOG_PLACES * WORDS;
        }

        void append(int size, Memory memory) {
            int t = count;
            count++;
            starts[slot(t)] = next;
            sizes[slot(t)] = size;
            copied[slot(t)] = memory.joined;
            revoked[slot(t)] = memory.revoked;
            for (int b = 0; b < BLOCKS; b++) {
                if (hasBlock(memory.joined, b)) {
                    System.arraycopy(memory.words, b * WORDS, words, copyOffset(t, b), WORDS);
                }
            }
            next = (next + size) % LOG_PLACES;
        }

        void forgetOldest(int k) {
            oldest = slot(k);
            count -= k;
        }

        private int unionBehind(int t, int[] sets) {
            int union = 0;
            for (int later = t + 1; later < count; later++) {
                union |= sets[slot(later)];
            }
            return union;
        }

        private int slot(int t) {
            return (oldest + t) % MAX_TRANSACTIONS;
        }
    }

    /** The present words, the running transaction and the dirty blocks; loaded anew by each mount. */
    private static final class Memory {
        private final int[] words = new int[BLOCKS * WORDS];
        private final int[] dirtyOrder = new int[POOL_BLOCKS];
        private int dirtyCount = 0;
        private int joined = 0;
        private int revoked = 0;
        private int committedUse = 0;

        void load(int[] homeWords) {
            System.arraycopy(homeWords, 0, words, 0, words.length);
            dirtyCount = 0;
            startTransaction();
        }

        void startTransaction() {
            joined = 0;
            revoked = 0;
            committedUse = blocksInUse();
        }

        int logBlocksNeeded() {
            if (joined == 0) {
                return 0;
            }
            int copies = Integer.bitCount(joined);
            return copies + blocksNaming(copies) + blocksNaming(Integer.bitCount(revoked)) + 1;
        }

        int word(int b, int w) {
            return isWord(b, w) ? words[b * WORDS + w] : 0;
        }

        void setWord(int b, int w, int v) {
            if (isWord(b, w)) {
                words[b * WORDS + w] = v;
            }
        }

        int fileLength(int f) {
            return word(f, LENGTH_WORD);
        }

        int dataBlock(int f, int i) {
            if (i < INODE_DATA_BLOCKS) {
                return word(f, FIRST_DATA_WORD + i);
            }
            return word(word(f, INDEX_WORD), i - INODE_DATA_BLOCKS);
        }

        void putDataBlock(int f, int i, int b) {
            if (i < INODE_DATA_BLOCKS) {
                setWord(f, FIRST_DATA_WORD + i, b);
                return;
            }
            int index = word(f, INDEX_WORD);
            setWord(index, i - INODE_DATA_BLOCKS, b);
            join(index);
        }

        boolean isDataBlockOf(int f, int b) {
            int has = dataBlocksFor(fileLength(f));
            for (int i = 0; i < has && i < DATA_BLOCKS; i++) {
                if (dataBlock(f, i) == b) {
                    return true;
                }
            }
            return false;
        }

        void moveInode(int f, int g) {
            for (int w = 0; w < WORDS; w++) {
                setWord(g, w, word(f, w));
                setWord(f, w, 0);
            }
            join(f);
            join(g);
        }

        void join(int b) {
            if (isBlock(b)) {
                joined |= 1 << b;
            }
        }

        void revoke(int b) {
            if (isBlock(b)) {
                revoked |= 1 << b;
            }
        }

        int takeableCount() {
            return Integer.bitCount(takeable());
        }

        /** The block taken, or 0 when none can be: callers have looked at takeableCount before. */
        int takeBlock() {
            int set = takeable();
            for (int b = FIRST_POOL; b < BLOCKS; b++) {
                if ((set >> (b - FIRST_POOL) & 1) != 0) {
                    setWord(MAP, 0, blocksInUse() | 1 << (b - FIRST_POOL));
                    join(MAP);
                    clearWords(b);
                    return b;
                }
            }
            return 0;
        }

        void freeBlock(int b) {
            if (!isPoolBlock(b)) {
                return;
            }
            setWord(MAP, 0, blocksInUse() & ~(1 << (b - FIRST_POOL)));
            join(MAP);
            joined &= ~(1 << b);
            makeClean(b);
        }

        int dirtyAt(int i) {
            return i >= 0 && i < dirtyCount ? dirtyOrder[i] : 0;
        }

        void makeDirty(int b) {
            if (isPoolBlock(b) && dirtyPlace(b) == dirtyCount && dirtyCount < POOL_BLOCKS) {
                dirtyOrder[dirtyCount] = b;
                dirtyCount++;
            }
        }

        void makeClean(int b) {
            int place = dirtyPlace(b);
            if (place == dirtyCount) {
                return;
            }
            dirtyCount--;
            System.arraycopy(dirtyOrder, place + 1, dirtyOrder, place, dirtyCount - place);
        }

        /** The block's place among the dirty ones, or their count when it is not dirty. */
        private int dirtyPlace(int b) {
            int i = 0;
            while (i < dirtyCount && dirtyOrder[i] != b) {
                i++;
            }
            return i;
        }

        private int blocksInUse() {
            return words[MAP * WORDS];
        }

        /** Bit b - 7 for pool block b: what the last commit still uses must stay as it is until the next. */
        private int takeable() {
            return ~(blocksInUse() | committedUse) & POOL_BITS;
        }

        private void clearWords(int b) {
            for (int w = 0; w < WORDS; w++) {
                setWord(b, w, 0);
            }
        }
    }
}
