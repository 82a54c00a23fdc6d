/** Objects brought to where the tests of the boundary cases start. */
final class Fixtures {
    static final int SHARED = 1;
    static final int EXCLUSIVE = 2;
    static final int OWNED = 3;
    static final int MODIFIED = 4;

    static final int READ = 0;
    static final int OWN = 1;
    static final int UPGRADE = 2;
    static final int UPDATE = 3;
    static final int BACK = 4;

    private Fixtures() {
    }

    static boolean isDirty(int state) {
        return state == OWNED || state == MODIFIED;
    }

    /** Whether a line can come into a state at all in a protocol. */
    static boolean isReachable(int protocol, int state) {
        return state == EXCLUSIVE ? protocol >= 1 : state != OWNED || protocol >= 2;
    }

    static int transaction(int kind, int processor, int block) {
        return 64 * kind + 16 * processor + block;
    }

    static void putInMemory(SnoopBus bus, int block, int first, int second) {
        bus.write(0, 2 * block, first);
        bus.write(0, 2 * block + 1, second);
        bus.evict(0, block);
    }

    /**
     * Cache 1 holds block 5 in that state, with the words 31 and 32, and no other cache holds anything.
     * The memory has 31 and 32 too if the state is clean, else 21 and 22.
     */
    static SnoopBus holding(int protocol, int state) {
        SnoopBus bus = Due.bus(protocol);
        if (isDirty(state)) {
            putInMemory(bus, 5, 21, 22);
            bus.write(1, 10, 31);
            bus.write(1, 11, 32);
        } else {
            putInMemory(bus, 5, 31, 32);
            bus.read(1, 10);
        }
        if (state == SHARED || state == OWNED) {
            bus.read(3, 10);
            bus.evict(3, 5);
        }
        return bus;
    }

    /** The same, but caches 0 and 2 hold the block as SHARED too; so only for the states SHARED and OWNED. */
    static SnoopBus sharing(int protocol, int state) {
        SnoopBus bus = holding(protocol, state);
        bus.read(0, 10);
        bus.read(2, 11);
        return bus;
    }

    /** Every line of every cache holds a block that is MODIFIED: cache p the blocks 2 * p and 2 * p + 1. */
    static SnoopBus full(int protocol) {
        SnoopBus bus = Due.bus(protocol);
        for (int block = 0; block < 8; block++) {
            bus.write(block / 2, 2 * block, 50 + block);
            bus.write(block / 2, 2 * block + 1, 60 + block);
        }
        return bus;
    }

    /** The counts of all kinds taken together. */
    static int transactions(SnoopBus bus) {
        int sum = 0;
        for (int kind = READ; kind <= BACK; kind++) {
            sum += bus.count(kind);
        }
        return sum;
    }
}
