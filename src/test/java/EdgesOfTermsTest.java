/** The boundary cases that the document's terms name: the ranges, the lines, the states and emptying a line. */
public final class EdgesOfTermsTest {
    private final Due due = new Due();

    public static void main(String[] args) {
        new EdgesOfTermsTest().run();
    }

    private void run() {
        due.sentence("PROCESSORS are 0 .. 3", this::processors);
        due.sentence("ADDRESSES 0 .. 31", this::addresses);
        due.sentence("The memory has a word (an int) for each address", this::anyIntIsAWord);
        due.sentence("[the memory's words are] all 0 at first", this::zeroAtFirst);
        due.sentence("BLOCK b (0 .. 15)", this::blocks);
        due.sentence("BLOCK b is the words at 2 * b and 2 * b + 1", this::wordsOfBlocks);
        due.sentence("A cache has two LINES, 0 and 1", this::twoLines);
        due.sentence("block b can only be in line b % 2", this::lineOfBlock);
        due.sentence("A line is empty, or holds a block", this::oneBlockALine);
        due.sentence("0 INVALID (so the line does not hold the block)", this::invalidIsNotHeld);
        due.sentence("The states 3 and 4 are DIRTY", this::dirtyStates);
        due.sentence("Each [transaction] is of a processor and a block, and is counted", this::transactions);
        due.sentence("PROTOCOLS 0 .. 3", this::protocols);
        due.sentence("[protocols] 0 to 2 INVALIDATE, 3 UPDATES", this::invalidateOrUpdate);
        due.sentence("To EMPTY a line: is its state dirty, a BACK: the block's words are written to the memory",
                this::emptyingDirty);
        due.sentence("To EMPTY a line [that is not dirty]: no BACK", this::emptyingClean);
        due.sentence("Then the line is empty", this::emptied);
        due.sentence("An object is used for at most 512 calls: the 512th still answers", this::lastCall);
        due.end();
    }

    private void processors() {
        for (int processor = 0; processor <= 3; processor++) {
            SnoopBus bus = new SnoopBus();
            due.same("write by " + processor, bus.write(processor, 9, 7), 1);
            due.same("read by " + processor, bus.read(processor, 9), 7);
            due.same("state in " + processor, bus.state(processor, 4), 4);
            due.same("evict by " + processor, bus.evict(processor, 4), true);
        }
        for (int processor : Due.NO_PROCESSORS) {
            SnoopBus bus = new SnoopBus();
            due.throwing("read by " + processor, IllegalArgumentException.class, bus, x -> x.read(processor, 9));
            due.throwing("write by " + processor, IllegalArgumentException.class, bus, x -> x.write(processor, 9, 7));
            due.same("state in " + processor, bus.state(processor, 4), -1);
        }
    }

    private void addresses() {
        for (int address : new int[] {0, 31}) {
            SnoopBus bus = new SnoopBus();
            due.same("write of " + address, bus.write(1, address, 7), 1);
            due.same("read of " + address, bus.read(2, address), 7);
            due.same("memory of " + address, bus.memory(address), 7);
        }
        for (int address : Due.NO_ADDRESSES) {
            SnoopBus bus = new SnoopBus();
            due.throwing("read of " + address, IllegalArgumentException.class, bus, x -> x.read(1, address));
            due.throwing("write of " + address, IllegalArgumentException.class, bus, x -> x.write(1, address, 7));
        }
    }

    private void anyIntIsAWord() {
        for (int protocol = 0; protocol < 4; protocol++) {
            for (int word : new int[] {Integer.MIN_VALUE, -1, 0, 1, Integer.MAX_VALUE}) {
                SnoopBus bus = Due.bus(protocol);
                bus.write(0, 31, 5);
                bus.write(1, 31, word);
                due.same("cached " + word, bus.cached(1, 31), word);
                bus.flush();
                due.same("memory " + word, bus.memory(31), word);
                due.same("read " + word, bus.read(3, 31), word);
            }
        }
    }

    private void zeroAtFirst() {
        SnoopBus bus = new SnoopBus();
        for (int address = 0; address < 32; address++) {
            due.same("memory(" + address + ")", bus.memory(address), 0);
            due.same("read(2, " + address + ")", bus.read(2, address), 0);
            due.same("memory(" + address + ") after its read", bus.memory(address), 0);
        }
    }

    private void blocks() {
        for (int block : new int[] {0, 15}) {
            SnoopBus bus = new SnoopBus();
            bus.read(0, 2 * block);
            due.same("state of block " + block, bus.state(0, block), 1);
            due.same("evict of block " + block, bus.evict(0, block), false);
        }
        for (int block : Due.NO_BLOCKS) {
            SnoopBus bus = Fixtures.full(0);
            due.same("state of block " + block, bus.state(0, block), -1);
            due.throwing("evict of block " + block, IllegalArgumentException.class, bus, x -> x.evict(0, block));
        }
    }

    private void wordsOfBlocks() {
        for (int block = 0; block < 16; block++) {
            SnoopBus bus = new SnoopBus();
            bus.write(3, 2 * block, 8);
            due.same("state of block " + block, bus.state(3, block), 4);
            due.same("state of the block before " + block, bus.state(3, block - 1), block == 0 ? -1 : 0);
            due.same("state of the block after " + block, bus.state(3, block + 1), block == 15 ? -1 : 0);
            due.same("write of the second word, a hit", bus.write(3, 2 * block + 1, 9), 0);
            due.same("misses()", bus.misses(), 1);
            bus.flush();
            due.same("memory before block " + block, bus.memory(2 * block - 1), 0);
            due.same("memory of the first word", bus.memory(2 * block), 8);
            due.same("memory of the second word", bus.memory(2 * block + 1), 9);
            due.same("memory after block " + block, bus.memory(2 * block + 2), 0);
        }
    }

    private void twoLines() {
        for (int processor = 0; processor < 4; processor++) {
            SnoopBus bus = new SnoopBus();
            bus.read(processor, 28);
            bus.read(processor, 31);
            due.same("state of block 14", bus.state(processor, 14), 1);
            due.same("state of block 15", bus.state(processor, 15), 1);
            bus.read(processor, 0);
            due.same("blocks held when a third came", blocksHeld(bus, processor), 2);
            bus.read(processor, 2);
            due.same("blocks held when a fourth came", blocksHeld(bus, processor), 2);
        }
    }

    private static int blocksHeld(SnoopBus bus, int processor) {
        int held = 0;
        for (int block = 0; block < 16; block++) {
            held += bus.state(processor, block) > 0 ? 1 : 0;
        }
        return held;
    }

    private void lineOfBlock() {
        for (int block = 0; block < 16; block++) {
            for (int next = 0; next < 16; next++) {
                SnoopBus bus = new SnoopBus();
                bus.read(2, 2 * block);
                bus.read(2, 2 * next);
                boolean stays = block == next || block % 2 != next % 2;
                due.same("block " + block + " after a read of block " + next, bus.state(2, block), stays ? 1 : 0);
                due.same("block " + next, bus.state(2, next), 1);
            }
        }
    }

    private void oneBlockALine() {
        SnoopBus bus = Fixtures.full(1);
        bus.evict(0, 0);
        for (int processor = 0; processor < 4; processor++) {
            for (int block = 0; block < 16; block++) {
                boolean held = block / 2 == processor && block != 0;
                due.same("state(" + processor + ", " + block + ")", bus.state(processor, block), held ? 4 : 0);
            }
        }
    }

    private void invalidIsNotHeld() {
        for (int protocol = 0; protocol < 3; protocol++) {
            SnoopBus bus = Fixtures.holding(protocol, Fixtures.MODIFIED);
            bus.write(2, 10, 77);
            int misses = bus.misses();
            due.same("state after another's OWN", bus.state(1, 5), 0);
            due.same("cached after another's OWN", bus.cached(1, 11), 0);
            due.throwing("evict after another's OWN", IllegalStateException.class, bus, x -> x.evict(1, 5));
            due.same("read after another's OWN", bus.read(1, 10), 77);
            due.same("misses()", bus.misses(), misses + 1);
        }
    }

    private void dirtyStates() {
        boolean[] dirty = {false, false, false, true, true};
        for (int protocol = 0; protocol < 4; protocol++) {
            for (int state = 1; state <= 4; state++) {
                if (Fixtures.isReachable(protocol, state)) {
                    SnoopBus bus = Fixtures.holding(protocol, state);
                    due.same("state(1, 5)", bus.state(1, 5), state);
                    due.same("a BACK from state " + state, bus.evict(1, 5), dirty[state]);
                }
            }
        }
    }

    private void transactions() {
        SnoopBus least = new SnoopBus();
        least.read(0, 0);
        due.same("READ by 0 of block 0", least.latest(0), 0);
        due.counts("after a READ", least, "1 0 0 0 0");
        SnoopBus invalidating = new SnoopBus();
        invalidating.read(3, 31);
        due.same("READ", invalidating.latest(0), 63);
        invalidating.write(3, 31, 1);
        due.same("UPGRADE", invalidating.latest(0), 128 + 63);
        invalidating.evict(3, 15);
        due.same("BACK", invalidating.latest(0), 256 + 63);
        invalidating.write(3, 30, 1);
        due.same("OWN", invalidating.latest(0), 64 + 63);
        due.counts("after one of each", invalidating, "1 1 1 0 1");
        SnoopBus updating = Due.bus(3);
        updating.read(0, 31);
        updating.write(3, 31, 1);
        due.same("UPDATE", updating.latest(0), 192 + 63);
        due.counts("after an UPDATE", updating, "2 0 0 1 0");
    }

    private void protocols() {
        SnoopBus bus = new SnoopBus();
        due.same("choose(3)", bus.choose(3), true);
        due.same("choose(4)", bus.choose(4), false);
        due.same("protocol()", bus.protocol(), 3);
        due.same("choose(0)", bus.choose(0), true);
        due.same("choose(-1)", bus.choose(-1), false);
        due.same("protocol()", bus.protocol(), 0);
    }

    private void invalidateOrUpdate() {
        String[] afterWrite = {"0400", "0400", "0400", "1310"};
        for (int protocol = 0; protocol < 4; protocol++) {
            SnoopBus bus = Fixtures.sharing(protocol, Fixtures.SHARED);
            bus.write(1, 10, 41);
            due.states("after a write, protocol " + protocol, bus, 5, afterWrite[protocol]);
            due.same("cached(0, 10)", bus.cached(0, 10), protocol == 3 ? 41 : 0);
            due.same("count(2)", bus.count(2), protocol == 3 ? 0 : 1);
            due.same("count(3)", bus.count(3), protocol == 3 ? 1 : 0);
        }
    }

    private void emptyingDirty() {
        for (int protocol = 0; protocol < 4; protocol++) {
            for (int state = Fixtures.OWNED; state <= Fixtures.MODIFIED; state++) {
                if (Fixtures.isReachable(protocol, state)) {
                    backWritesBothWords(protocol, state);
                }
            }
        }
    }

    private void backWritesBothWords(int protocol, int state) {
        SnoopBus bus = Fixtures.holding(protocol, state);
        due.same("memory(10) before", bus.memory(10), 21);
        due.same("memory(11) before", bus.memory(11), 22);
        int backs = bus.count(4);
        bus.evict(1, 5);
        due.same("count(4)", bus.count(4), backs + 1);
        due.same("latest(0)", bus.latest(0), Fixtures.transaction(Fixtures.BACK, 1, 5));
        due.same("memory(10) after", bus.memory(10), 31);
        due.same("memory(11) after", bus.memory(11), 32);
        due.same("memory(9), beside the block", bus.memory(9), 0);
        due.same("memory(12), beside the block", bus.memory(12), 0);
    }

    private void emptyingClean() {
        for (int protocol = 0; protocol < 4; protocol++) {
            for (int state = Fixtures.SHARED; state <= Fixtures.EXCLUSIVE; state++) {
                if (Fixtures.isReachable(protocol, state)) {
                    SnoopBus bus = Fixtures.holding(protocol, state);
                    int transactions = Fixtures.transactions(bus);
                    int latest = bus.latest(0);
                    bus.evict(1, 5);
                    due.same("transactions", Fixtures.transactions(bus), transactions);
                    due.same("latest(0)", bus.latest(0), latest);
                    due.same("memory(10)", bus.memory(10), 31);
                }
            }
        }
        sharedCopyIsNotWrittenBack(2);
        sharedCopyIsNotWrittenBack(3);
    }

    private void sharedCopyIsNotWrittenBack(int protocol) {
        SnoopBus bus = Fixtures.sharing(protocol, Fixtures.OWNED);
        due.same("evict of a copy beside its owner", bus.evict(0, 5), false);
        due.same("memory(10), which the owner has not written yet", bus.memory(10), 21);
        due.states("of the owner and the other copy", bus, 5, "0310");
    }

    private void emptied() {
        for (int protocol = 0; protocol < 4; protocol++) {
            for (int state = 1; state <= 4; state++) {
                if (Fixtures.isReachable(protocol, state)) {
                    SnoopBus bus = Fixtures.holding(protocol, state);
                    bus.evict(1, 5);
                    due.states("after it was emptied", bus, 5, "0000");
                    due.same("cached(1, 10)", bus.cached(1, 10), 0);
                    due.same("flush() of what is left", bus.flush(), 0);
                    due.throwing("evict again", IllegalStateException.class, bus, x -> x.evict(1, 5));
                }
            }
        }
    }

    private void lastCall() {
        due.same("read as the 512th call", after511Calls(0).read(2, 30), 510);
        due.same("write as the 512th call", after511Calls(3).write(2, 30, 1), 2);
        due.same("count as the 512th call", after511Calls(1).count(1), 510);
        due.same("misses as the 512th call", after511Calls(2).misses(), 510);
        due.same("hits as the 512th call", after511Calls(3).hits(), 508);
        due.same("flush as the 512th call", after511Calls(3).flush(), 1);
        due.same("evict as the 512th call", after511Calls(0).evict(0, 15), true);
        due.same("latest as the 512th call", after511Calls(0).latest(7), 64 + 16 + 15);
    }

    /** A choose, then the words 1 to 510 written by the processors 1 and 0 in turn. */
    private static SnoopBus after511Calls(int protocol) {
        SnoopBus bus = Due.bus(protocol);
        for (int word = 1; word <= 510; word++) {
            bus.write(word % 2, 30, word);
        }
        return bus;
    }
}
