/** The boundary cases of a LOAD: what stood in the line, who holds the block, and what becomes of the holders. */
public final class EdgesOfLoadTest {
    private final Due due = new Due();

    public static void main(String[] args) {
        new EdgesOfLoadTest().run();
    }

    private void run() {
        due.sentence("the line where it can be is emptied, if it holds another block: a dirty one", this::overDirty);
        due.sentence("the line where it can be is emptied, if it holds another block: a clean one", this::overClean);
        due.sentence("the line where it can be is emptied, if it holds another block: it is empty", this::intoEmpty);
        due.sentence("then there is one transaction, READ or OWN", this::oneTransaction);
        due.sentence("The words come from the cache that holds the block in a dirty state, if there is one",
                this::wordsOfDirtyHolder);
        due.sentence("[the words come] else from the memory", this::wordsOfMemory);
        due.sentence("protocol 0: a dirty holder writes the words to the memory too (no transaction more)",
                () -> dirtyHolderWrites(0));
        due.sentence("protocol 0: all other holders become SHARED", this::holdersInProtocolZero);
        due.sentence("protocol 0: the processor's line becomes SHARED [also if no other cache holds the block]",
                this::readerInProtocolZero);
        due.sentence("protocol 1: the same: a dirty holder writes the words to the memory too",
                () -> dirtyHolderWrites(1));
        due.sentence("protocol 1: the same: all other holders become SHARED", this::holdersInProtocolOne);
        due.sentence("protocol 1: the processor's line becomes EXCLUSIVE if no other cache holds the block",
                () -> readerAlone(1));
        due.sentence("protocol 1: [the processor's line becomes SHARED if another cache holds the block]",
                () -> readerNotAlone(1));
        due.sentence("protocols 2 and 3: other holders that are MODIFIED become OWNED", this::modifiedBecomesOwned);
        due.sentence("protocols 2 and 3: EXCLUSIVE ones [become] SHARED", this::exclusiveBecomesShared);
        due.sentence("protocols 2 and 3: OWNED and SHARED ones stay", this::ownedAndSharedStay);
        due.sentence("protocols 2 and 3: the memory stays", this::memoryStays);
        due.sentence("protocols 2 and 3: the processor's line becomes SHARED if another cache holds the block",
                this::readerSharedInTwoAndThree);
        due.sentence("protocols 2 and 3: else EXCLUSIVE", this::readerAloneInTwoAndThree);
        due.sentence("By an OWN all other holders' lines are emptied without a BACK", this::ownEmptiesOthers);
        due.sentence("By an OWN [where there are no other holders] the processor's line becomes MODIFIED",
                this::ownWithoutOthers);
        due.end();
    }

    private void overDirty() {
        for (int protocol = 0; protocol < 4; protocol++) {
            for (int state = Fixtures.OWNED; state <= Fixtures.MODIFIED; state++) {
                if (Fixtures.isReachable(protocol, state)) {
                    readOverDirty(protocol, state);
                    writeOverDirty(protocol, state);
                }
            }
        }
        overOwnedBesideCopies(2);
        overOwnedBesideCopies(3);
    }

    private void readOverDirty(int protocol, int state) {
        SnoopBus bus = Fixtures.holding(protocol, state);
        due.same("read(1, 2)", bus.read(1, 2), 0);
        due.latest("a BACK, then the READ", bus, 16 + 1, 256 + 16 + 5);
        emptiedIntoMemory(bus);
        due.same("read(1, 11), back again", bus.read(1, 11), 32);
    }

    private void writeOverDirty(int protocol, int state) {
        SnoopBus bus = Fixtures.holding(protocol, state);
        due.same("write(1, 30, 9)", bus.write(1, 30, 9), 2);
        due.latest("a BACK, then the READ or OWN", bus, (protocol == 3 ? 0 : 64) + 16 + 15, 256 + 16 + 5);
        emptiedIntoMemory(bus);
        due.same("memory(30)", bus.memory(30), 0);
    }

    private void emptiedIntoMemory(SnoopBus bus) {
        due.states("that had to go", bus, 5, "0000");
        due.same("memory(10)", bus.memory(10), 31);
        due.same("memory(11)", bus.memory(11), 32);
    }

    private void overOwnedBesideCopies(int protocol) {
        SnoopBus bus = Fixtures.sharing(protocol, Fixtures.OWNED);
        bus.read(1, 6);
        due.states("whose owner's line was taken", bus, 5, "1010");
        due.same("memory(10)", bus.memory(10), 31);
        due.same("cached(2, 11)", bus.cached(2, 11), 32);
    }

    private void overClean() {
        for (int protocol = 0; protocol < 4; protocol++) {
            for (int state = Fixtures.SHARED; state <= Fixtures.EXCLUSIVE; state++) {
                if (Fixtures.isReachable(protocol, state)) {
                    SnoopBus bus = Fixtures.holding(protocol, state);
                    int backs = bus.count(4);
                    due.same("read(1, 2)", bus.read(1, 2), 0);
                    due.states("that had to go", bus, 5, "0000");
                    due.same("count(4)", bus.count(4), backs);
                    due.same("write(1, 30, 9)", bus.write(1, 30, 9), 1);
                    due.states("that had to go", bus, 1, "0000");
                }
            }
        }
    }

    private void intoEmpty() {
        for (int protocol = 0; protocol < 4; protocol++) {
            SnoopBus bus = Fixtures.full(protocol);
            bus.evict(2, 5);
            int backs = bus.count(4);
            due.same("write(2, 30, 9) into the line that is empty", bus.write(2, 30, 9), 1);
            due.same("count(4)", bus.count(4), backs);
            due.states("in the other line", bus, 4, "0040");
            bus.evict(2, 15);
            bus.read(2, 10);
            due.same("count(4) after a read into an empty line", bus.count(4), backs + 1);
        }
    }

    private void oneTransaction() {
        String[] afterWrite = {"1 1 0 0 0", "1 1 0 0 0", "1 1 0 0 0", "2 0 0 0 0"};
        for (int protocol = 0; protocol < 4; protocol++) {
            SnoopBus bus = Due.bus(protocol);
            bus.read(3, 8);
            due.counts("after a read", bus, "1 0 0 0 0");
            bus.write(3, 10, 1);
            due.counts("after a write", bus, afterWrite[protocol]);
        }
    }

    private void wordsOfDirtyHolder() {
        for (int protocol = 0; protocol < 4; protocol++) {
            for (int holder = 0; holder < 4; holder++) {
                for (int reader = 0; reader < 4; reader++) {
                    if (holder != reader) {
                        fromModified(protocol, holder, reader);
                        fromOwned(protocol, holder, reader);
                        writtenFromDirty(protocol, holder, reader);
                    }
                }
            }
        }
    }

    private void fromModified(int protocol, int holder, int reader) {
        SnoopBus bus = dirtyAt(protocol, holder);
        due.same("read from a MODIFIED holder", bus.read(reader, 10), 31);
        due.same("the other word", bus.cached(reader, 11), 32);
    }

    private void fromOwned(int protocol, int holder, int reader) {
        SnoopBus bus = dirtyAt(protocol, holder);
        bus.read(anyBut(holder, reader), 10);
        due.same("the first holder", bus.state(holder, 5), protocol < 2 ? 1 : 3);
        due.same("read after another reader", bus.read(reader, 11), 32);
        due.same("the other word", bus.cached(reader, 10), 31);
    }

    private static int anyBut(int one, int other) {
        int third = 0;
        while (third == one || third == other) {
            third++;
        }
        return third;
    }

    private void writtenFromDirty(int protocol, int holder, int reader) {
        SnoopBus bus = dirtyAt(protocol, holder);
        bus.write(reader, 10, 34);
        due.same("the word not written comes from the dirty holder", bus.cached(reader, 11), 32);
        due.same("the word written", bus.cached(reader, 10), 34);
    }

    /** The memory has 21 and 22 for block 5, that cache alone 31 and 32. */
    private static SnoopBus dirtyAt(int protocol, int holder) {
        SnoopBus bus = Due.bus(protocol);
        Fixtures.putInMemory(bus, 5, 21, 22);
        bus.write(holder, 10, 31);
        bus.write(holder, 11, 32);
        return bus;
    }

    private void wordsOfMemory() {
        for (int protocol = 0; protocol < 4; protocol++) {
            SnoopBus nobody = Due.bus(protocol);
            Fixtures.putInMemory(nobody, 5, 21, 22);
            due.same("read where nobody holds the block", nobody.read(3, 11), 22);
            due.same("read beside a clean holder", nobody.read(2, 10), 21);
            SnoopBus besideDirty = Fixtures.holding(protocol, Fixtures.MODIFIED);
            due.same("read of a block beside a dirty one", besideDirty.read(0, 12), 0);
            due.same("read of another block of the same line", besideDirty.read(0, 14), 0);
            due.same("cached(0, 15)", besideDirty.cached(0, 15), 0);
            due.states("that was not asked for", besideDirty, 5, "0400");
        }
    }

    private void dirtyHolderWrites(int protocol) {
        SnoopBus bus = Fixtures.holding(protocol, Fixtures.MODIFIED);
        int transactions = Fixtures.transactions(bus);
        int backs = bus.count(4);
        bus.read(2, 10);
        due.same("memory(10)", bus.memory(10), 31);
        due.same("memory(11)", bus.memory(11), 32);
        due.same("transactions", Fixtures.transactions(bus), transactions + 1);
        due.same("count(4)", bus.count(4), backs);
        due.same("latest(0)", bus.latest(0), 32 + 5);
        due.same("flush() of what is clean now", bus.flush(), 0);
    }

    private void holdersInProtocolZero() {
        SnoopBus modified = Fixtures.holding(0, Fixtures.MODIFIED);
        modified.read(3, 10);
        due.states("of a MODIFIED holder and a reader", modified, 5, "0101");
        SnoopBus shared = Fixtures.sharing(0, Fixtures.SHARED);
        shared.read(3, 10);
        due.states("of three holders and a reader", shared, 5, "1111");
    }

    private void readerInProtocolZero() {
        SnoopBus bus = new SnoopBus();
        bus.read(0, 10);
        due.states("of a reader alone", bus, 5, "1000");
        bus.read(3, 10);
        due.states("of two readers", bus, 5, "1001");
    }

    private void holdersInProtocolOne() {
        SnoopBus modified = Fixtures.holding(1, Fixtures.MODIFIED);
        modified.read(3, 10);
        due.states("of a MODIFIED holder and a reader", modified, 5, "0101");
        SnoopBus exclusive = Fixtures.holding(1, Fixtures.EXCLUSIVE);
        exclusive.read(3, 10);
        due.states("of an EXCLUSIVE holder and a reader", exclusive, 5, "0101");
        SnoopBus shared = Fixtures.sharing(1, Fixtures.SHARED);
        shared.read(3, 10);
        due.states("of three holders and a reader", shared, 5, "1111");
    }

    private void readerAlone(int protocol) {
        for (int reader = 0; reader < 4; reader++) {
            SnoopBus bus = Due.bus(protocol);
            bus.read(reader, 10);
            due.same("a block that nobody ever held", bus.state(reader, 5), 2);
        }
        SnoopBus evicted = Fixtures.holding(protocol, Fixtures.MODIFIED);
        evicted.evict(1, 5);
        evicted.read(0, 10);
        due.states("that another cache held before", evicted, 5, "2000");
        SnoopBus taken = Fixtures.holding(protocol, Fixtures.MODIFIED);
        taken.read(1, 6);
        taken.read(0, 10);
        due.states("whose line another block took", taken, 5, "2000");
        SnoopBus neighbours = Fixtures.full(protocol);
        neighbours.read(0, 30);
        due.states("while all other caches hold other blocks", neighbours, 15, "2000");
        SnoopBus again = Fixtures.sharing(protocol, Fixtures.SHARED);
        again.flush();
        again.read(2, 10);
        due.states("after a flush", again, 5, "0020");
    }

    private void readerNotAlone(int protocol) {
        for (int holder = 0; holder < 4; holder++) {
            for (int reader = 0; reader < 4; reader++) {
                if (holder != reader) {
                    SnoopBus bus = Due.bus(protocol);
                    bus.read(holder, 10);
                    bus.read(reader, 11);
                    due.same("the reader beside one holder", bus.state(reader, 5), 1);
                    due.same("the holder", bus.state(holder, 5), 1);
                }
            }
        }
        SnoopBus beside = Fixtures.holding(protocol, Fixtures.SHARED);
        beside.read(3, 10);
        due.same("the reader beside a holder that was SHARED alone", beside.state(3, 5), 1);
        SnoopBus dirty = Fixtures.holding(protocol, Fixtures.MODIFIED);
        dirty.read(3, 10);
        due.same("the reader beside a dirty holder", dirty.state(3, 5), 1);
    }

    private void modifiedBecomesOwned() {
        for (int protocol = 2; protocol < 4; protocol++) {
            SnoopBus bus = Fixtures.holding(protocol, Fixtures.MODIFIED);
            bus.read(3, 10);
            due.states("of a MODIFIED holder and a reader", bus, 5, "0301");
        }
    }

    private void exclusiveBecomesShared() {
        for (int protocol = 2; protocol < 4; protocol++) {
            SnoopBus bus = Fixtures.holding(protocol, Fixtures.EXCLUSIVE);
            bus.read(3, 10);
            due.states("of an EXCLUSIVE holder and a reader", bus, 5, "0101");
        }
    }

    private void ownedAndSharedStay() {
        for (int protocol = 2; protocol < 4; protocol++) {
            SnoopBus owned = Fixtures.sharing(protocol, Fixtures.OWNED);
            due.states("before a READ", owned, 5, "1310");
            owned.read(3, 10);
            due.states("of an OWNED and two SHARED holders and a reader", owned, 5, "1311");
            SnoopBus shared = Fixtures.sharing(protocol, Fixtures.SHARED);
            shared.read(3, 10);
            due.states("of three SHARED holders and a reader", shared, 5, "1111");
        }
    }

    private void memoryStays() {
        for (int protocol = 2; protocol < 4; protocol++) {
            SnoopBus bus = Fixtures.holding(protocol, Fixtures.MODIFIED);
            bus.read(3, 10);
            due.same("memory(10) after a READ from a MODIFIED holder", bus.memory(10), 21);
            bus.read(0, 10);
            due.same("memory(10) after a READ from an OWNED holder", bus.memory(10), 21);
            due.same("memory(11)", bus.memory(11), 22);
            due.same("flush() of the owner", bus.flush(), 1);
            due.same("memory(10) in the end", bus.memory(10), 31);
        }
    }

    private void readerSharedInTwoAndThree() {
        readerNotAlone(2);
        readerNotAlone(3);
        for (int protocol = 2; protocol < 4; protocol++) {
            SnoopBus bus = Fixtures.holding(protocol, Fixtures.OWNED);
            bus.read(0, 10);
            due.same("the reader beside an owner alone", bus.state(0, 5), 1);
        }
    }

    private void readerAloneInTwoAndThree() {
        readerAlone(2);
        readerAlone(3);
    }

    private void ownEmptiesOthers() {
        for (int protocol = 0; protocol < 3; protocol++) {
            for (int state = 1; state <= 4; state++) {
                if (Fixtures.isReachable(protocol, state)) {
                    ownTakes(Fixtures.holding(protocol, state), Fixtures.isDirty(state));
                }
            }
            ownTakes(Fixtures.sharing(protocol, Fixtures.SHARED), false);
            otherLinesStay(protocol);
        }
        ownTakes(Fixtures.sharing(2, Fixtures.OWNED), true);
    }

    private void ownTakes(SnoopBus bus, boolean dirty) {
        int backs = bus.count(4);
        due.same("write(3, 10, 9)", bus.write(3, 10, 9), 1);
        due.states("after an OWN", bus, 5, "0004");
        due.same("latest(0)", bus.latest(0), 64 + 48 + 5);
        due.same("count(4)", bus.count(4), backs);
        due.same("memory(10)", bus.memory(10), dirty ? 21 : 31);
        due.same("memory(11)", bus.memory(11), dirty ? 22 : 32);
        due.same("cached(3, 11)", bus.cached(3, 11), 32);
    }

    private void otherLinesStay(int protocol) {
        SnoopBus bus = Fixtures.full(protocol);
        bus.write(3, 8, 9);
        due.states("taken by the OWN", bus, 4, "0004");
        due.states("of another line of the same cache", bus, 5, "0040");
        due.states("of the same line of another cache", bus, 2, "0400");
        due.states("of the same line of another cache", bus, 0, "4000");
    }

    private void ownWithoutOthers() {
        for (int protocol = 0; protocol < 3; protocol++) {
            SnoopBus bus = Due.bus(protocol);
            due.same("write(3, 10, 9)", bus.write(3, 10, 9), 1);
            due.states("after an OWN alone", bus, 5, "0004");
            due.counts("after an OWN alone", bus, "0 1 0 0 0");
            due.same("cached(3, 10)", bus.cached(3, 10), 9);
            due.same("cached(3, 11)", bus.cached(3, 11), 0);
        }
    }
}
