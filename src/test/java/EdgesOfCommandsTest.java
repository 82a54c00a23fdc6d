import java.util.function.Consumer;

/** The boundary cases that the promises 1 to 7 name: a new object, choose, protocol, read, write, evict and flush. */
public final class EdgesOfCommandsTest {
    private static final int[] NO_PROTOCOLS = {-1, 4, Integer.MIN_VALUE, Integer.MAX_VALUE};

    private final Due due = new Due();

    public static void main(String[] args) {
        EdgesOfCommandsTest test = new EdgesOfCommandsTest();
        test.newObjectAndChoose();
        test.readAndWrite();
        test.evictAndFlush();
        test.due.end();
    }

    private void newObjectAndChoose() {
        due.sentence("1: As after choose(0)", this::asAfterChoose);
        due.sentence("2: All lines are empty", this::chooseEmptiesLines);
        due.sentence("2: the memory is 0", this::chooseClearsMemory);
        due.sentence("2: all counts are 0", this::chooseClearsCounts);
        due.sentence("2: there was no transaction", this::chooseForgetsTransactions);
        due.sentence("2: the protocol is that one", this::chooseSetsProtocol);
        due.sentence("2: false, and all stays, if there is no such protocol", this::chooseRefuses);
        due.sentence("2: (Also when it is that one already.)", this::chooseOfTheSame);
        due.sentence("3: The protocol", this::protocolIsTold);
    }

    private void readAndWrite() {
        due.sentence("4: A read access: the word", this::readWord);
        due.sentence("4: IllegalArgumentException if there is no such processor",
                () -> noProcessor((bus, p) -> bus.read(p, 0)));
        due.sentence("4: IllegalArgumentException if there is no such address",
                () -> noAddress((bus, a) -> bus.read(0, a)));
        due.sentence("5: how many transactions it needed: none", this::writeWithoutTransaction);
        due.sentence("5: how many transactions it needed: the most there can be", this::writeWithMost);
        due.sentence("5: (Also of a word that it has already)", this::writeOfTheSameWord);
        due.sentence("5: (a BACK counts)", this::backCounts);
        due.sentence("5: IllegalArgumentException if there is no such processor",
                () -> noProcessor((bus, p) -> bus.write(p, 0, 7)));
        due.sentence("5: IllegalArgumentException if there is no such address",
                () -> noAddress((bus, a) -> bus.write(0, a, 7)));
    }

    private void evictAndFlush() {
        due.sentence("6: The processor's line that holds the block is emptied", this::evictEmptiesOneLine);
        due.sentence("6: whether a BACK was needed", this::evictTellsBack);
        due.sentence("6: IllegalArgumentException if there is no such processor",
                () -> noProcessor((bus, p) -> bus.evict(p, 0)));
        due.sentence("6: IllegalArgumentException if there is no such block", this::evictOfNoBlock);
        due.sentence("6: else IllegalStateException if its cache does not hold the block", this::evictOfNotHeld);
        due.sentence("7: All lines of all caches that hold a block are emptied: all hold one", this::flushOfFull);
        due.sentence("7: All lines of all caches that hold a block are emptied: none holds one", this::flushOfEmpty);
        due.sentence("7: All lines of all caches that hold a block are emptied: some hold one", this::flushOfSome);
        due.sentence("7: processor 0 first, line 0 before line 1", this::flushInOrder);
        due.sentence("7: how many BACKs that needed", this::flushTellsBacks);
    }

    private interface Call {
        void on(SnoopBus bus, int argument);
    }

    private void noProcessor(Call call) {
        refusedOnNewAndFull(Due.NO_PROCESSORS, call);
    }

    private void noAddress(Call call) {
        refusedOnNewAndFull(Due.NO_ADDRESSES, call);
    }

    private void refusedOnNewAndFull(int[] wrongArguments, Call call) {
        for (int protocol = 0; protocol < 4; protocol++) {
            for (int wrong : wrongArguments) {
                Consumer<SnoopBus> attempt = bus -> call.on(bus, wrong);
                due.throwing("with " + wrong + " on a new object", IllegalArgumentException.class,
                        Due.bus(protocol), attempt);
                due.throwing("with " + wrong + " when all lines are full", IllegalArgumentException.class,
                        Fixtures.full(protocol), attempt);
            }
        }
    }

    private void asAfterChoose() {
        SnoopBus chosen = Fixtures.full(3);
        chosen.choose(0);
        due.same("all questions of a new object", Due.look(new SnoopBus()), Due.look(chosen));
        SnoopBus made = new SnoopBus();
        made.read(2, 10);
        due.same("a reader alone is SHARED, by protocol 0", made.state(2, 5), 1);
        due.same("a write of it is an UPGRADE, by protocol 0", made.write(2, 10, 1), 1);
        due.same("latest(0)", made.latest(0), 128 + 32 + 5);
    }

    private void chooseEmptiesLines() {
        for (int protocol = 0; protocol < 4; protocol++) {
            SnoopBus bus = Fixtures.full(3 - protocol);
            bus.choose(protocol);
            for (int block = 0; block < 8; block++) {
                int holder = block / 2;
                int held = block;
                due.same("state of block " + block, bus.state(holder, block), 0);
                due.same("cached word of block " + block, bus.cached(holder, 2 * block), 0);
                due.throwing("evict of block " + block, IllegalStateException.class, bus, x -> x.evict(holder, held));
            }
            due.same("flush()", bus.flush(), 0);
            due.same("a write into a line that was dirty", bus.write(0, 28, 1), 1);
        }
    }

    private void chooseClearsMemory() {
        for (int protocol = 0; protocol < 4; protocol++) {
            SnoopBus bus = Due.bus(protocol);
            for (int address = 0; address < 32; address++) {
                bus.write(address % 4, address, 90 + address);
            }
            bus.flush();
            due.same("memory(31) before", bus.memory(31), 121);
            bus.choose(protocol);
            for (int address = 0; address < 32; address++) {
                due.same("memory(" + address + ")", bus.memory(address), 0);
                due.same("read(1, " + address + ")", bus.read(1, address), 0);
            }
        }
    }

    private void chooseClearsCounts() {
        for (int protocol = 0; protocol < 4; protocol++) {
            SnoopBus bus = Due.used(protocol);
            due.same("there were hits and misses", bus.hits() > 0 && bus.misses() > 0, true);
            bus.choose(protocol);
            due.counts("after choose", bus, "0 0 0 0 0");
            due.same("hits()", bus.hits(), 0);
            due.same("misses()", bus.misses(), 0);
        }
    }

    private void chooseForgetsTransactions() {
        for (int protocol = 0; protocol < 4; protocol++) {
            SnoopBus bus = Fixtures.full(protocol);
            bus.flush();
            bus.choose(protocol);
            due.latest("after choose", bus, -1, -1, -1, -1, -1, -1, -1, -1);
            bus.read(3, 31);
            due.latest("after choose and one READ", bus, 63, -1, -1, -1, -1, -1, -1, -1);
        }
    }

    private void chooseSetsProtocol() {
        String[] afterRead = {"0100", "0200", "0200", "0200"};
        String[] afterWrite = {"0004", "0004", "0004", "0103"};
        for (int protocol = 0; protocol < 4; protocol++) {
            SnoopBus bus = Fixtures.full(3 - protocol);
            due.same("choose(" + protocol + ")", bus.choose(protocol), true);
            due.same("protocol()", bus.protocol(), protocol);
            bus.read(1, 10);
            due.states("after a read by that protocol", bus, 5, afterRead[protocol]);
            bus.write(3, 10, 2);
            due.states("after a write by that protocol", bus, 5, afterWrite[protocol]);
        }
    }

    private void chooseRefuses() {
        for (int protocol = 0; protocol < 4; protocol++) {
            for (int wrong : NO_PROTOCOLS) {
                SnoopBus bus = Due.used(protocol);
                due.same("choose(" + wrong + ")", bus.choose(wrong), false);
                due.same("all questions", Due.look(bus), Due.look(Due.used(protocol)));
                SnoopBus full = Fixtures.full(protocol);
                full.choose(wrong);
                due.same("flush() after a refused choose", full.flush(), 8);
                due.same("read after a refused choose", full.read(0, 15), 67);
            }
        }
    }

    private void chooseOfTheSame() {
        for (int protocol = 0; protocol < 4; protocol++) {
            SnoopBus bus = Due.used(protocol);
            due.same("choose(" + protocol + ") again", bus.choose(protocol), true);
            due.same("all questions", Due.look(bus), Due.look(Due.bus(protocol)));
        }
        SnoopBus first = new SnoopBus();
        first.write(0, 0, 1);
        due.same("choose(0) of an object where nothing was chosen", first.choose(0), true);
        due.same("all questions", Due.look(first), Due.look(new SnoopBus()));
    }

    private void protocolIsTold() {
        SnoopBus bus = new SnoopBus();
        due.same("protocol() of a new object", bus.protocol(), 0);
        for (int protocol = 3; protocol >= 0; protocol--) {
            bus.choose(protocol);
            due.same("protocol()", bus.protocol(), protocol);
            bus.write(0, 0, 1);
            bus.flush();
            due.same("protocol() later", bus.protocol(), protocol);
            bus.choose(4);
            due.same("protocol() after a refused choose", bus.protocol(), protocol);
        }
    }

    private void readWord() {
        for (int protocol = 0; protocol < 4; protocol++) {
            SnoopBus bus = Due.bus(protocol);
            Fixtures.putInMemory(bus, 0, 71, 72);
            Fixtures.putInMemory(bus, 15, 73, 74);
            due.same("read(0, 0), a miss", bus.read(0, 0), 71);
            due.same("read(0, 0), a hit", bus.read(0, 0), 71);
            due.same("read(0, 1)", bus.read(0, 1), 72);
            due.same("read(3, 31), a miss", bus.read(3, 31), 74);
            due.same("read(3, 30), a hit", bus.read(3, 30), 73);
        }
    }

    private void writeWithoutTransaction() {
        for (int protocol = 1; protocol < 4; protocol++) {
            due.same("write of EXCLUSIVE", Fixtures.holding(protocol, Fixtures.EXCLUSIVE).write(1, 10, 1), 0);
            due.same("write of MODIFIED", Fixtures.holding(protocol, Fixtures.MODIFIED).write(1, 10, 1), 0);
        }
        due.same("write of MODIFIED", Fixtures.holding(0, Fixtures.MODIFIED).write(1, 10, 1), 0);
    }

    /** Where the protocol updates: a BACK, a READ and an UPDATE. Where it invalidates: a BACK and an OWN. */
    private void writeWithMost() {
        for (int protocol = 0; protocol < 4; protocol++) {
            SnoopBus bus = Fixtures.full(protocol);
            due.same("write over a dirty block, of one that is dirty elsewhere", bus.write(1, 14, 9),
                    protocol == 3 ? 3 : 2);
            due.states("that was written", bus, 7, protocol == 3 ? "0301" : "0400");
            due.same("memory(6), by the BACK", bus.memory(6), 53);
            due.same("cached(1, 15), from the dirty holder", bus.cached(1, 15), 67);
        }
        SnoopBus updating = Fixtures.full(3);
        updating.write(1, 14, 9);
        due.latest("BACK, READ, UPDATE", updating, 192 + 16 + 7, 16 + 7, 256 + 16 + 3);
    }

    private void writeOfTheSameWord() {
        for (int protocol = 0; protocol < 4; protocol++) {
            for (int state = 1; state <= 4; state++) {
                if (Fixtures.isReachable(protocol, state)) {
                    SnoopBus bus = Fixtures.holding(protocol, state);
                    int needed = state == Fixtures.SHARED || state == Fixtures.OWNED ? 1 : 0;
                    int hits = bus.hits();
                    due.same("write of the same word from state " + state, bus.write(1, 10, 31), needed);
                    due.states("after it", bus, 5, "0400");
                    due.same("hits()", bus.hits(), hits + 1);
                    due.same("evict needs a BACK", bus.evict(1, 5), true);
                }
            }
            SnoopBus beside = Fixtures.sharing(protocol, Fixtures.SHARED);
            due.same("write of the same word beside others", beside.write(1, 10, 31), 1);
            due.states("after it", beside, 5, protocol == 3 ? "1310" : "0400");
            SnoopBus missed = Due.bus(protocol);
            due.same("write of the word that the memory has", missed.write(0, 0, 0), 1);
            due.states("after it", missed, 0, "4000");
        }
    }

    private void backCounts() {
        for (int protocol = 0; protocol < 4; protocol++) {
            for (int state = 1; state <= 4; state++) {
                if (Fixtures.isReachable(protocol, state)) {
                    SnoopBus bus = Fixtures.holding(protocol, state);
                    due.same("write over a block of state " + state, bus.write(1, 14, 9),
                            Fixtures.isDirty(state) ? 2 : 1);
                }
            }
        }
    }

    private void evictEmptiesOneLine() {
        for (int protocol = 0; protocol < 4; protocol++) {
            SnoopBus bus = Fixtures.full(protocol);
            bus.evict(3, 7);
            for (int block = 0; block < 8; block++) {
                due.same("state of block " + block, bus.state(block / 2, block), block == 7 ? 0 : 4);
            }
            due.same("memory(15)", bus.memory(15), 67);
            due.same("memory(13)", bus.memory(13), 0);
            SnoopBus shared = Fixtures.sharing(protocol, Fixtures.SHARED);
            shared.evict(0, 5);
            due.states("in the other caches", shared, 5, "0110");
        }
    }

    private void evictTellsBack() {
        for (int protocol = 0; protocol < 4; protocol++) {
            for (int state = 1; state <= 4; state++) {
                if (Fixtures.isReachable(protocol, state)) {
                    SnoopBus bus = Fixtures.holding(protocol, state);
                    int backs = bus.count(4);
                    due.same("evict from state " + state, bus.evict(1, 5), Fixtures.isDirty(state));
                    due.same("count(4)", bus.count(4), Fixtures.isDirty(state) ? backs + 1 : backs);
                }
            }
        }
    }

    private void evictOfNoBlock() {
        refusedOnNewAndFull(Due.NO_BLOCKS, (bus, block) -> bus.evict(0, block));
    }

    private void evictOfNotHeld() {
        for (int protocol = 0; protocol < 4; protocol++) {
            notHeld("an empty line", Due.bus(protocol), 0, 0);
            notHeld("an empty line", Due.bus(protocol), 3, 15);
            notHeld("another block in the line", Fixtures.full(protocol), 0, 14);
            notHeld("another cache holds it", Fixtures.full(protocol), 0, 2);
            SnoopBus again = Fixtures.full(protocol);
            again.evict(0, 0);
            notHeld("it was evicted", again, 0, 0);
            SnoopBus flushed = Fixtures.full(protocol);
            flushed.flush();
            notHeld("it was flushed", flushed, 3, 7);
            SnoopBus taken = Fixtures.full(protocol);
            taken.read(0, 28);
            notHeld("another block took its line", taken, 0, 0);
        }
        for (int protocol = 0; protocol < 3; protocol++) {
            SnoopBus owned = Fixtures.full(protocol);
            owned.write(3, 0, 1);
            notHeld("another cache has taken it by an OWN", owned, 0, 0);
            SnoopBus upgraded = Fixtures.sharing(protocol, Fixtures.SHARED);
            upgraded.write(0, 10, 1);
            notHeld("another cache has taken it by an UPGRADE", upgraded, 1, 5);
        }
    }

    private void notHeld(String why, SnoopBus bus, int processor, int block) {
        due.throwing("evict, " + why, IllegalStateException.class, bus, x -> x.evict(processor, block));
    }

    private void flushOfFull() {
        for (int protocol = 0; protocol < 4; protocol++) {
            SnoopBus bus = Fixtures.full(protocol);
            due.same("flush()", bus.flush(), 8);
            for (int block = 0; block < 8; block++) {
                due.states("after flush", bus, block, "0000");
                due.same("first word of block " + block, bus.memory(2 * block), 50 + block);
                due.same("second word of block " + block, bus.memory(2 * block + 1), 60 + block);
            }
            due.same("flush() again", bus.flush(), 0);
        }
    }

    private void flushOfEmpty() {
        for (int protocol = 0; protocol < 4; protocol++) {
            SnoopBus bus = Due.bus(protocol);
            due.same("flush()", bus.flush(), 0);
            due.same("all questions", Due.look(bus), Due.look(Due.bus(protocol)));
        }
    }

    private void flushOfSome() {
        for (int protocol = 0; protocol < 4; protocol++) {
            SnoopBus bus = Fixtures.full(protocol);
            bus.evict(0, 0);
            bus.evict(3, 7);
            bus.write(0, 3, 99);
            due.same("flush() of six lines", bus.flush(), 6);
            due.same("memory(3)", bus.memory(3), 99);
            due.latest("after flush", bus, 256 + 48 + 6, 256 + 32 + 5, 256 + 32 + 4,
                    256 + 16 + 3, 256 + 16 + 2, 256 + 1);
        }
    }

    private void flushInOrder() {
        for (int protocol = 0; protocol < 4; protocol++) {
            SnoopBus bus = Due.bus(protocol);
            for (int processor = 3; processor >= 0; processor--) {
                bus.write(processor, 2 + 8 * (3 - processor), 1);
                bus.write(processor, 4 + 8 * (3 - processor), 1);
            }
            due.same("flush()", bus.flush(), 8);
            due.latest("line 0 before line 1, though its block is the greater one", bus,
                    256 + 48 + 1, 256 + 48 + 2, 256 + 32 + 5, 256 + 32 + 6,
                    256 + 16 + 9, 256 + 16 + 10, 256 + 13, 256 + 14);
        }
    }

    private void flushTellsBacks() {
        for (int protocol = 0; protocol < 4; protocol++) {
            for (int state = 1; state <= 4; state++) {
                if (Fixtures.isReachable(protocol, state)) {
                    SnoopBus bus = Fixtures.holding(protocol, state);
                    int backs = bus.count(4);
                    int needed = Fixtures.isDirty(state) ? 1 : 0;
                    due.same("flush() of state " + state, bus.flush(), needed);
                    due.same("count(4)", bus.count(4), backs + needed);
                }
            }
        }
        for (int protocol = 2; protocol < 4; protocol++) {
            SnoopBus owned = Fixtures.sharing(protocol, Fixtures.OWNED);
            due.same("flush() of an owner and its copies", owned.flush(), 1);
            due.same("latest(0)", owned.latest(0), 256 + 16 + 5);
            due.states("after flush", owned, 5, "0000");
        }
    }
}
