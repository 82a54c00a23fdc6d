import java.util.Arrays;

/** Four processors with a cache each share one bus and one memory. */
public final class SnoopBus {
    private static final int PROCESSORS = 4;
    private static final int ADDRESSES = 32;
    private static final int BLOCKS = 16;
    private static final int BLOCK_WORDS = 2;
    private static final int CACHE_LINES = 2;
    private static final int ALL_LINES = 8;
    private static final int PROTOCOLS = 4;
    private static final int KINDS = 5;
    private static final int REMEMBERED = 8;
    private static final int NONE = -1;

    private static final int INVALID = 0;
    private static final int SHARED = 1;
    private static final int EXCLUSIVE = 2;
    private static final int OWNED = 3;
    private static final int MODIFIED = 4;

    private static final int READ = 0;
    private static final int OWN = 1;
    private static final int UPGRADE = 2;
    private static final int UPDATE = 3;
    private static final int BACK = 4;

    private static final int WITHOUT_EXCLUSIVE = 0;
    private static final int FIRST_WITH_OWNED = 2;
    private static final int UPDATING = 3;

    // The lines of all caches stand in one row, in the order in which flush() goes through them.
    // A line is empty when its state is INVALID; its block and words are then left over and mean nothing.
    private final int[] lineStates = new int[ALL_LINES];
    private final int[] lineBlocks = new int[ALL_LINES];
    private final int[] lineWords = new int[ALL_LINES * BLOCK_WORDS];
    private final int[] memoryWords = new int[ADDRESSES];
    private final int[] kindCounts = new int[KINDS];
    private final int[] recent = new int[REMEMBERED];
    private int chosen;
    private int transactions;
    private int hitCount;
    private int missCount;

    public SnoopBus() {
        startOver(0);
    }

    public boolean choose(int protocol) {
        if (protocol < 0 || protocol >= PROTOCOLS) {
            return false;
        }
        startOver(protocol);
        return true;
    }

    public int protocol() {
        return chosen;
    }

    public int read(int processor, int address) throws IllegalArgumentException {
        if (!isProcessor(processor) || !isAddress(address)) {
            throw new IllegalArgumentException("no such processor or address");
        }
        bringIn(processor, blockOf(address), READ);
        return lineWords[wordIndex(processor, address)];
    }

    public int write(int processor, int address, int word) throws IllegalArgumentException {
        if (!isProcessor(processor) || !isAddress(address)) {
            throw new IllegalArgumentException("no such processor or address");
        }
        int before = transactions;
        bringIn(processor, blockOf(address), updates() ? READ : OWN);
        if (updates()) {
            tellOthers(processor, address, word);
        } else {
            claim(processor, blockOf(address));
        }
        lineWords[wordIndex(processor, address)] = word;
        return transactions - before;
    }

    public boolean evict(int processor, int block) throws IllegalArgumentException, IllegalStateException {
        if (!isProcessor(processor) || !isBlock(block)) {
            throw new IllegalArgumentException("no such processor or block");
        }
        if (!holds(processor, block)) {
            throw new IllegalStateException("the cache does not hold the block");
        }
        return emptyLine(lineFor(processor, block));
    }

    public int flush() {
        int backs = 0;
        for (int line = 0; line < ALL_LINES; line++) {
            if (emptyLine(line)) {
                backs++;
            }
        }
        return backs;
    }

    public int state(int processor, int block) {
        if (!isProcessor(processor) || !isBlock(block)) {
            return NONE;
        }
        return holds(processor, block) ? lineStates[lineFor(processor, block)] : INVALID;
    }

    public int cached(int processor, int address) {
        if (!isProcessor(processor) || !isAddress(address) || !holds(processor, blockOf(address))) {
            return 0;
        }
        return lineWords[wordIndex(processor, address)];
    }

    public int memory(int address) {
        return isAddress(address) ? memoryWords[address] : 0;
    }

    public int count(int kind) {
        return kind >= 0 && kind < KINDS ? kindCounts[kind] : NONE;
    }

    public int hits() {
        return hitCount;
    }

    public int misses() {
        return missCount;
    }

    public int latest(int k) {
        return k >= 0 && k < REMEMBERED ? recent[k] : NONE;
    }

    private void startOver(int protocol) {
        Arrays.fill(lineStates, INVALID);
        Arrays.fill(memoryWords, 0);
        Arrays.fill(kindCounts, 0);
        Arrays.fill(recent, NONE);
        chosen = protocol;
        transactions = 0;
        hitCount = 0;
        missCount = 0;
    }

    private static boolean isProcessor(int processor) {
        return processor >= 0 && processor < PROCESSORS;
    }

    private static boolean isAddress(int address) {
        return address >= 0 && address < ADDRESSES;
    }

    private static boolean isBlock(int block) {
        return block >= 0 && block < BLOCKS;
    }

    private static boolean isDirty(int state) {
        return state == OWNED || state == MODIFIED;
    }

    private static int blockOf(int address) {
        return address / BLOCK_WORDS;
    }

    private static int lineFor(int processor, int block) {
        return processor * CACHE_LINES + block % CACHE_LINES;
    }

    private static int wordIndex(int processor, int address) {
        return lineFor(processor, blockOf(address)) * BLOCK_WORDS + address % BLOCK_WORDS;
    }

    private boolean updates() {
        return chosen == UPDATING;
    }

    private boolean holds(int processor, int block) {
        int line = lineFor(processor, block);
        return lineStates[line] != INVALID && lineBlocks[line] == block;
    }

    private void transact(int kind, int processor, int block) {
        for (int k = REMEMBERED - 1; k > 0; k--) {
            recent[k] = recent[k - 1];
        }
        recent[0] = 64 * kind + 16 * processor + block;
        kindCounts[kind]++;
        transactions++;
    }

    private void copyToMemory(int line) {
        System.arraycopy(lineWords, line * BLOCK_WORDS, memoryWords, lineBlocks[line] * BLOCK_WORDS, BLOCK_WORDS);
    }

    /** Answers whether a BACK was needed; an empty line stays as it is, since INVALID is not dirty. */
    private boolean emptyLine(int line) {
        boolean back = isDirty(lineStates[line]);
        if (back) {
            transact(BACK, line / CACHE_LINES, lineBlocks[line]);
            copyToMemory(line);
        }
        lineStates[line] = INVALID;
        return back;
    }

    private void bringIn(int processor, int block, int kind) {
        if (holds(processor, block)) {
            hitCount++;
        } else {
            missCount++;
            load(processor, block, kind);
        }
    }

    private void load(int processor, int block, int kind) {
        int line = lineFor(processor, block);
        emptyLine(line);
        transact(kind, processor, block);
        // The words are fetched first: what the other holders do next may lose the only good copy.
        fetchWords(line, block);
        int state = MODIFIED;
        if (kind == OWN) {
            dropOthers(processor, block);
        } else {
            state = shareWithOthers(processor, block);
        }
        lineBlocks[line] = block;
        lineStates[line] = state;
    }

    private void fetchWords(int line, int block) {
        int source = dirtyLine(block);
        if (source == NONE) {
            System.arraycopy(memoryWords, block * BLOCK_WORDS, lineWords, line * BLOCK_WORDS, BLOCK_WORDS);
        } else {
            System.arraycopy(lineWords, source * BLOCK_WORDS, lineWords, line * BLOCK_WORDS, BLOCK_WORDS);
        }
    }

    private int dirtyLine(int block) {
        for (int processor = 0; processor < PROCESSORS; processor++) {
            int line = lineFor(processor, block);
            if (holds(processor, block) && isDirty(lineStates[line])) {
                return line;
            }
        }
        return NONE;
    }

    private void dropOthers(int processor, int block) {
        for (int other = 0; other < PROCESSORS; other++) {
            if (other != processor && holds(other, block)) {
                lineStates[lineFor(other, block)] = INVALID;
            }
        }
    }

    /** What a READ does to the other holders; answers the state that the reader's line gets. */
    private int shareWithOthers(int processor, int block) {
        boolean alone = true;
        for (int other = 0; other < PROCESSORS; other++) {
            if (other != processor && holds(other, block)) {
                alone = false;
                yieldToReader(lineFor(other, block));
            }
        }
        return alone && chosen != WITHOUT_EXCLUSIVE ? EXCLUSIVE : SHARED;
    }

    private void yieldToReader(int line) {
        boolean dirty = isDirty(lineStates[line]);
        if (dirty && chosen >= FIRST_WITH_OWNED) {
            lineStates[line] = OWNED;
            return;
        }
        if (dirty) {
            copyToMemory(line);
        }
        lineStates[line] = SHARED;
    }

    /** A write where the protocol invalidates: the writer's line becomes the only one. */
    private void claim(int processor, int block) {
        int line = lineFor(processor, block);
        if (isPerhapsElsewhere(lineStates[line])) {
            transact(UPGRADE, processor, block);
            dropOthers(processor, block);
        }
        lineStates[line] = MODIFIED;
    }

    /** A write where the protocol updates: the other holders keep the block and get the word. */
    private void tellOthers(int processor, int address, int word) {
        int block = blockOf(address);
        int line = lineFor(processor, block);
        boolean others = false;
        if (isPerhapsElsewhere(lineStates[line])) {
            transact(UPDATE, processor, block);
            others = updateOthers(processor, address, word);
        }
        lineStates[line] = others ? OWNED : MODIFIED;
    }

    // A line stays SHARED or OWNED when the other holders have gone, so these states only say "perhaps".
    private static boolean isPerhapsElsewhere(int state) {
        return state == SHARED || state == OWNED;
    }

    private boolean updateOthers(int processor, int address, int word) {
        boolean others = false;
        for (int other = 0; other < PROCESSORS; other++) {
            if (other != processor && holds(other, blockOf(address))) {
                others = true;
                lineWords[wordIndex(other, address)] = word;
                lineStates[lineFor(other, blockOf(address))] = SHARED;
            }
        }
        return others;
    }
}
