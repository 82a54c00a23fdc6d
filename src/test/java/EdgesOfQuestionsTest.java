/** The boundary cases that the promises 8 to 14 name: state, cached, memory, count, hits, misses and latest. */
public final class EdgesOfQuestionsTest {
    private static final int[] NO_KINDS = {-1, 5, Integer.MIN_VALUE, Integer.MAX_VALUE};
    private static final int[] NO_RANKS = {-1, 8, Integer.MIN_VALUE, Integer.MAX_VALUE};

    private final Due due = new Due();

    public static void main(String[] args) {
        new EdgesOfQuestionsTest().run();
    }

    private void run() {
        due.sentence("8: The state of a block in a processor's cache", this::stateIsTold);
        due.sentence("8: -1 if there is no such processor or block", this::stateOfNone);
        due.sentence("9: The word that a processor's cache has for an address", this::cachedIsTold);
        due.sentence("9: 0 if it does not hold the block", this::cachedOfNotHeld);
        due.sentence("9: 0 if there is no such processor or address", this::cachedOfNone);
        due.sentence("10: The word of the memory", this::memoryIsTold);
        due.sentence("10: 0 if there is no such address", this::memoryOfNone);
        due.sentence("11: How many transactions of a kind there were", this::countIsTold);
        due.sentence("11: -1 if there is no such kind", this::countOfNone);
        due.sentence("12: How many hits there were (of reads and writes)", this::hitsAreTold);
        due.sentence("13: How many misses there were", this::missesAreTold);
        due.sentence("14: The transaction that was the k-th counted from the latest (0)", this::latestIsTold);
        due.sentence("14: 64 * kind + 16 * processor + block", this::latestOfEach);
        due.sentence("14: -1 if k is not 0 .. 7", this::latestOfNoRank);
        due.sentence("14: -1 if there were not so many", this::latestOfFew);
        due.end();
    }

    private void stateIsTold() {
        for (int protocol = 0; protocol < 4; protocol++) {
            for (int state = 1; state <= 4; state++) {
                if (Fixtures.isReachable(protocol, state)) {
                    SnoopBus bus = Fixtures.holding(protocol, state);
                    due.same("state(1, 5)", bus.state(1, 5), state);
                    due.same("state(1, 7), another block of the line", bus.state(1, 7), 0);
                    due.same("state(2, 5), an empty line", bus.state(2, 5), 0);
                    due.same("state(1, 4), an empty line", bus.state(1, 4), 0);
                }
            }
        }
        SnoopBus fresh = new SnoopBus();
        due.same("state(0, 0) of a new object", fresh.state(0, 0), 0);
        due.same("state(3, 15) of a new object", fresh.state(3, 15), 0);
    }

    private void stateOfNone() {
        for (int protocol = 0; protocol < 4; protocol++) {
            for (SnoopBus bus : new SnoopBus[] {Due.bus(protocol), Fixtures.full(protocol)}) {
                for (int processor : Due.NO_PROCESSORS) {
                    due.same("state(" + processor + ", 0)", bus.state(processor, 0), -1);
                }
                for (int block : Due.NO_BLOCKS) {
                    due.same("state(0, " + block + ")", bus.state(0, block), -1);
                }
                due.same("state(4, 16)", bus.state(4, 16), -1);
            }
        }
    }

    private void cachedIsTold() {
        for (int protocol = 0; protocol < 4; protocol++) {
            SnoopBus bus = Fixtures.full(protocol);
            for (int block = 0; block < 8; block++) {
                due.same("first word of block " + block, bus.cached(block / 2, 2 * block), 50 + block);
                due.same("second word of block " + block, bus.cached(block / 2, 2 * block + 1), 60 + block);
            }
            SnoopBus last = Due.bus(protocol);
            last.write(3, 31, -5);
            due.same("cached(3, 31)", last.cached(3, 31), -5);
        }
    }

    private void cachedOfNotHeld() {
        for (int protocol = 0; protocol < 4; protocol++) {
            SnoopBus bus = Fixtures.full(protocol);
            due.same("another block in the line", bus.cached(0, 4), 0);
            due.same("another cache holds it", bus.cached(2, 0), 0);
            bus.evict(0, 0);
            due.same("its line was emptied", bus.cached(0, 0), 0);
            due.same("its line was emptied, though the memory has the word", bus.memory(0), 50);
            bus.read(1, 28);
            due.same("another block took its line", bus.cached(1, 8), 0);
            bus.choose(protocol);
            due.same("all was emptied by choose", bus.cached(3, 14), 0);
        }
        for (int protocol = 0; protocol < 3; protocol++) {
            SnoopBus bus = Fixtures.full(protocol);
            bus.write(3, 0, 9);
            due.same("another cache has taken it", bus.cached(0, 1), 0);
        }
    }

    private void cachedOfNone() {
        for (int protocol = 0; protocol < 4; protocol++) {
            SnoopBus bus = Fixtures.full(protocol);
            for (int address = 0; address < 16; address++) {
                for (int processor : Due.NO_PROCESSORS) {
                    due.same("cached(" + processor + ", " + address + ")", bus.cached(processor, address), 0);
                }
            }
            for (int processor = 0; processor < 4; processor++) {
                for (int address : Due.NO_ADDRESSES) {
                    due.same("cached(" + processor + ", " + address + ")", bus.cached(processor, address), 0);
                }
            }
        }
    }

    private void memoryIsTold() {
        for (int protocol = 0; protocol < 4; protocol++) {
            SnoopBus bus = Due.bus(protocol);
            Fixtures.putInMemory(bus, 0, 81, 82);
            Fixtures.putInMemory(bus, 15, 83, 84);
            bus.write(2, 0, 85);
            due.same("memory(0), though a cache has a newer word", bus.memory(0), 81);
            due.same("memory(1)", bus.memory(1), 82);
            due.same("memory(30)", bus.memory(30), 83);
            due.same("memory(31)", bus.memory(31), 84);
            due.same("memory(2)", bus.memory(2), 0);
            bus.evict(2, 0);
            due.same("memory(0) after a BACK", bus.memory(0), 85);
        }
    }

    private void memoryOfNone() {
        SnoopBus bus = new SnoopBus();
        for (int address = 0; address < 32; address++) {
            bus.write(0, address, 1 + address);
        }
        bus.flush();
        for (int address : Due.NO_ADDRESSES) {
            due.same("memory(" + address + ")", bus.memory(address), 0);
        }
    }

    private void countIsTold() {
        SnoopBus invalidating = Due.bus(1);
        due.counts("at first", invalidating, "0 0 0 0 0");
        invalidating.read(0, 0);
        due.counts("after a READ", invalidating, "1 0 0 0 0");
        invalidating.write(1, 2, 1);
        due.counts("after an OWN", invalidating, "1 1 0 0 0");
        invalidating.read(2, 0);
        invalidating.write(2, 0, 1);
        due.counts("after a READ and an UPGRADE", invalidating, "2 1 1 0 0");
        invalidating.flush();
        due.counts("after two BACKs", invalidating, "2 1 1 0 2");
        SnoopBus updating = Due.bus(3);
        updating.read(0, 0);
        updating.write(1, 0, 1);
        due.counts("after two READs and an UPDATE", updating, "2 0 0 1 0");
    }

    private void countOfNone() {
        for (int protocol = 0; protocol < 4; protocol++) {
            for (SnoopBus bus : new SnoopBus[] {Due.bus(protocol), Due.used(protocol)}) {
                for (int kind : NO_KINDS) {
                    due.same("count(" + kind + ")", bus.count(kind), -1);
                }
            }
        }
    }

    private void hitsAreTold() {
        for (int protocol = 0; protocol < 4; protocol++) {
            SnoopBus bus = Due.bus(protocol);
            due.same("hits() at first", bus.hits(), 0);
            bus.read(0, 0);
            bus.write(1, 2, 5);
            due.same("hits() after two misses", bus.hits(), 0);
            bus.read(0, 1);
            due.same("hits() after a hit of a read", bus.hits(), 1);
            bus.write(1, 3, 5);
            due.same("hits() after a hit of a write", bus.hits(), 2);
            bus.evict(1, 1);
            bus.flush();
            due.same("hits() after evict and flush", bus.hits(), 2);
        }
    }

    private void missesAreTold() {
        for (int protocol = 0; protocol < 4; protocol++) {
            SnoopBus bus = Due.bus(protocol);
            due.same("misses() at first", bus.misses(), 0);
            bus.read(0, 0);
            due.same("misses() after a miss of a read", bus.misses(), 1);
            bus.write(1, 2, 5);
            due.same("misses() after a miss of a write", bus.misses(), 2);
            bus.read(0, 1);
            bus.write(1, 3, 5);
            due.same("misses() after two hits", bus.misses(), 2);
            bus.evict(1, 1);
            bus.flush();
            due.same("misses() after evict and flush", bus.misses(), 2);
            bus.read(1, 2);
            due.same("misses() of a block that was emptied", bus.misses(), 3);
        }
    }

    /** Each READ is of another block, so that none of the last eight can be taken for another. */
    private void latestIsTold() {
        SnoopBus bus = new SnoopBus();
        for (int done = 1; done <= 32; done++) {
            bus.read(done / 16 % 4, 2 * (done % 16));
            int shown = done < 8 ? done : 8;
            for (int k = 0; k < shown; k++) {
                int then = done - k;
                due.same("latest(" + k + ") after " + done, bus.latest(k), 16 * (then / 16 % 4) + then % 16);
            }
        }
    }

    private void latestOfEach() {
        SnoopBus bus = new SnoopBus();
        for (int processor = 0; processor < 4; processor++) {
            for (int block = 0; block < 16; block++) {
                bus.write(processor, 2 * block, 1);
                due.same("an OWN", bus.latest(0), 64 + 16 * processor + block);
                bus.evict(processor, block);
                due.same("a BACK", bus.latest(0), 256 + 16 * processor + block);
            }
        }
    }

    private void latestOfNoRank() {
        for (SnoopBus bus : new SnoopBus[] {new SnoopBus(), Fixtures.full(0), Fixtures.full(3)}) {
            bus.flush();
            for (int k : NO_RANKS) {
                due.same("latest(" + k + ")", bus.latest(k), -1);
            }
        }
    }

    private void latestOfFew() {
        SnoopBus bus = new SnoopBus();
        for (int done = 0; done <= 8; done++) {
            for (int k = 0; k < 8; k++) {
                due.same("is latest(" + k + ") there after " + done, bus.latest(k) != -1, k < done);
            }
            bus.read(0, 4 * done % 32);
        }
    }
}
