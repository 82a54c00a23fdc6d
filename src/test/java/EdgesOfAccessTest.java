/** The boundary cases of a READ ACCESS and a WRITE ACCESS: hit or miss, and what a write does by the line's state. */
public final class EdgesOfAccessTest {
    private final Due due = new Due();

    public static void main(String[] args) {
        new EdgesOfAccessTest().run();
    }

    private void run() {
        due.sentence("a read gives what was written last to its address, by whomever", this::lastWritten);
        due.sentence("A READ ACCESS of a word is a HIT if the processor's cache holds the block", this::readHits);
        due.sentence("else it is a MISS, and the block is loaded by a READ", this::readMisses);
        due.sentence("A WRITE ACCESS is a HIT or a MISS likewise: a HIT", this::writeHits);
        due.sentence("A WRITE ACCESS is a HIT or a MISS likewise: a MISS", this::writeMisses);
        due.sentence("At a miss the block is loaded first: by an OWN if the protocol invalidates", this::missByOwn);
        due.sentence("At a miss the block is loaded first: by a READ if it updates", this::missByRead);
        due.sentence("MODIFIED stays", this::modifiedStays);
        due.sentence("EXCLUSIVE becomes MODIFIED", this::exclusiveBecomesModified);
        due.sentence("SHARED or OWNED: if the protocol invalidates, an UPGRADE: all other holders' lines are emptied, "
                + "and the state becomes MODIFIED", this::upgrade);
        due.sentence("[by an UPGRADE a line that is OWNED is emptied] without a BACK", this::upgradeBesideOwner);
        due.sentence("[an UPGRADE where there are no others]", this::upgradeWithoutOthers);
        due.sentence("if it updates, an UPDATE: all other holders get the new word", this::updateGivesTheWord);
        due.sentence("[by an UPDATE all other holders] become SHARED", this::updateMakesOthersShared);
        due.sentence("the state becomes OWNED if there are others", this::updateWithOthers);
        due.sentence("[if there are no others, the state becomes] else MODIFIED", this::updateWithoutOthers);
        due.sentence("In the end the processor's line has the new word", this::newWordInTheEnd);
        due.end();
    }

    private void lastWritten() {
        for (int protocol = 0; protocol < 4; protocol++) {
            for (int writer = 0; writer < 4; writer++) {
                for (int reader = 0; reader < 4; reader++) {
                    SnoopBus bus = Fixtures.sharing(protocol, Fixtures.SHARED);
                    bus.write(writer, 11, 40);
                    due.same("read by " + reader + " after a write by " + writer, bus.read(reader, 11), 40);
                    bus.write(reader, 11, 41);
                    due.same("read by " + writer + " after a write by " + reader, bus.read(writer, 11), 41);
                    due.same("read of the word beside it", bus.read(writer, 10), 31);
                }
            }
        }
    }

    private void readHits() {
        for (int protocol = 0; protocol < 4; protocol++) {
            for (int state = 1; state <= 4; state++) {
                if (Fixtures.isReachable(protocol, state)) {
                    SnoopBus bus = Fixtures.holding(protocol, state);
                    int hits = bus.hits();
                    int misses = bus.misses();
                    int transactions = Fixtures.transactions(bus);
                    due.same("read(1, 10)", bus.read(1, 10), 31);
                    due.same("read(1, 11)", bus.read(1, 11), 32);
                    due.same("hits()", bus.hits(), hits + 2);
                    due.same("misses()", bus.misses(), misses);
                    due.same("transactions", Fixtures.transactions(bus), transactions);
                    due.same("the state stays", bus.state(1, 5), state);
                }
            }
        }
    }

    private void readMisses() {
        for (int protocol = 0; protocol < 4; protocol++) {
            SnoopBus empty = Due.bus(protocol);
            readIsMiss("an empty line", empty, 0, 0);
            readIsMiss("another block in the line", empty, 0, 28);
            readIsMiss("another cache holds it", empty, 1, 28);
            empty.evict(1, 14);
            readIsMiss("its line was emptied", empty, 1, 29);
        }
        for (int protocol = 0; protocol < 3; protocol++) {
            SnoopBus taken = Fixtures.holding(protocol, Fixtures.MODIFIED);
            taken.write(2, 10, 1);
            readIsMiss("another cache has taken it", taken, 1, 10);
        }
    }

    private void readIsMiss(String why, SnoopBus bus, int processor, int address) {
        int hits = bus.hits();
        int misses = bus.misses();
        int reads = bus.count(0);
        bus.read(processor, address);
        due.same("hits(), " + why, bus.hits(), hits);
        due.same("misses(), " + why, bus.misses(), misses + 1);
        due.same("count(0), " + why, bus.count(0), reads + 1);
        due.same("latest(0), " + why, bus.latest(0), 16 * processor + address / 2);
    }

    private void writeHits() {
        for (int protocol = 0; protocol < 4; protocol++) {
            for (int state = 1; state <= 4; state++) {
                if (Fixtures.isReachable(protocol, state)) {
                    SnoopBus bus = Fixtures.holding(protocol, state);
                    int hits = bus.hits();
                    int misses = bus.misses();
                    bus.write(1, 11, 8);
                    due.same("hits() from state " + state, bus.hits(), hits + 1);
                    due.same("misses() from state " + state, bus.misses(), misses);
                }
            }
        }
    }

    private void writeMisses() {
        for (int protocol = 0; protocol < 4; protocol++) {
            SnoopBus bus = Due.bus(protocol);
            writeIsMiss("an empty line", bus, 0, 0);
            writeIsMiss("another block in the line", bus, 0, 28);
            writeIsMiss("another cache holds it", bus, 1, 28);
            bus.evict(1, 14);
            writeIsMiss("its line was emptied", bus, 1, 29);
        }
    }

    private void writeIsMiss(String why, SnoopBus bus, int processor, int address) {
        int hits = bus.hits();
        int misses = bus.misses();
        bus.write(processor, address, 5);
        due.same("hits(), " + why, bus.hits(), hits);
        due.same("misses(), " + why, bus.misses(), misses + 1);
    }

    private void missByOwn() {
        for (int protocol = 0; protocol < 3; protocol++) {
            SnoopBus alone = Due.bus(protocol);
            due.same("write(2, 10, 5), nobody else", alone.write(2, 10, 5), 1);
            due.counts("after a write alone", alone, "0 1 0 0 0");
            due.same("write(1, 10, 6), one other", alone.write(1, 10, 6), 1);
            due.counts("after the next writer", alone, "0 2 0 0 0");
            due.states("after the next writer", alone, 5, "0400");
        }
    }

    private void missByRead() {
        SnoopBus alone = Due.bus(3);
        due.same("write(2, 10, 5), nobody else", alone.write(2, 10, 5), 1);
        due.counts("after a write alone, EXCLUSIVE in between", alone, "1 0 0 0 0");
        due.states("after a write alone", alone, 5, "0040");
        due.same("write(1, 10, 6), one other", alone.write(1, 10, 6), 2);
        due.counts("after the next writer, SHARED in between", alone, "2 0 0 1 0");
        due.latest("the READ, then the UPDATE", alone, 192 + 16 + 5, 16 + 5);
        due.states("after the next writer", alone, 5, "0310");
    }

    private void modifiedStays() {
        for (int protocol = 0; protocol < 4; protocol++) {
            SnoopBus bus = Fixtures.holding(protocol, Fixtures.MODIFIED);
            int transactions = Fixtures.transactions(bus);
            due.same("write(1, 10, 9)", bus.write(1, 10, 9), 0);
            due.states("after it", bus, 5, "0400");
            due.same("transactions", Fixtures.transactions(bus), transactions);
            due.same("memory(10)", bus.memory(10), 21);
        }
    }

    private void exclusiveBecomesModified() {
        for (int protocol = 1; protocol < 4; protocol++) {
            SnoopBus bus = Fixtures.holding(protocol, Fixtures.EXCLUSIVE);
            int transactions = Fixtures.transactions(bus);
            due.same("write(1, 10, 9)", bus.write(1, 10, 9), 0);
            due.states("after it", bus, 5, "0400");
            due.same("transactions", Fixtures.transactions(bus), transactions);
            due.same("memory(10)", bus.memory(10), 31);
        }
    }

    private void upgrade() {
        for (int protocol = 0; protocol < 3; protocol++) {
            upgradeBy(Fixtures.sharing(protocol, Fixtures.SHARED), 1, 31);
            SnoopBus allFour = Fixtures.sharing(protocol, Fixtures.SHARED);
            allFour.read(3, 10);
            upgradeBy(allFour, 1, 31);
        }
        upgradeBy(Fixtures.sharing(2, Fixtures.OWNED), 1, 21);
    }

    private void upgradeBy(SnoopBus bus, int processor, int memory) {
        int backs = bus.count(4);
        int upgrades = bus.count(2);
        due.same("write(" + processor + ", 10, 9)", bus.write(processor, 10, 9), 1);
        due.states("after an UPGRADE", bus, 5, "0".repeat(processor) + "4" + "0".repeat(3 - processor));
        due.same("latest(0)", bus.latest(0), 128 + 16 * processor + 5);
        due.same("count(2)", bus.count(2), upgrades + 1);
        due.same("count(4)", bus.count(4), backs);
        due.same("memory(10)", bus.memory(10), memory);
        due.same("cached(" + processor + ", 11)", bus.cached(processor, 11), 32);
    }

    private void upgradeWithoutOthers() {
        for (int protocol = 0; protocol < 3; protocol++) {
            SnoopBus shared = Fixtures.holding(protocol, Fixtures.SHARED);
            due.same("write(1, 10, 9), SHARED alone", shared.write(1, 10, 9), 1);
            due.same("latest(0)", shared.latest(0), 128 + 16 + 5);
            due.states("after an UPGRADE alone", shared, 5, "0400");
            due.same("write(1, 10, 8), MODIFIED now", shared.write(1, 10, 8), 0);
        }
        SnoopBus owned = Fixtures.holding(2, Fixtures.OWNED);
        due.same("write(1, 10, 9), OWNED alone", owned.write(1, 10, 9), 1);
        due.same("latest(0)", owned.latest(0), 128 + 16 + 5);
        due.states("after an UPGRADE alone", owned, 5, "0400");
    }

    private void upgradeBesideOwner() {
        upgradeBy(Fixtures.sharing(2, Fixtures.OWNED), 0, 21);
        upgradeBy(Fixtures.sharing(2, Fixtures.OWNED), 2, 21);
    }

    private void updateGivesTheWord() {
        for (int writer = 0; writer < 3; writer++) {
            SnoopBus bus = Fixtures.sharing(3, Fixtures.OWNED);
            bus.read(3, 6);
            due.same("write of a block with two others", bus.write(writer, 11, 77), 1);
            due.same("latest(0)", bus.latest(0), 192 + 16 * writer + 5);
            for (int holder = 0; holder < 3; holder++) {
                due.same("the new word in cache " + holder, bus.cached(holder, 11), 77);
                due.same("the other word in cache " + holder, bus.cached(holder, 10), 31);
            }
            due.same("another block in the same line", bus.cached(3, 7), 0);
            due.same("memory(11)", bus.memory(11), 22);
        }
    }

    private void updateMakesOthersShared() {
        SnoopBus byCopy = Fixtures.sharing(3, Fixtures.OWNED);
        byCopy.read(3, 6);
        byCopy.write(2, 10, 77);
        due.states("when a copy's holder wrote", byCopy, 5, "1130");
        due.states("of another block in the same line", byCopy, 3, "0002");
        SnoopBus byOwner = Fixtures.sharing(3, Fixtures.OWNED);
        byOwner.write(1, 10, 77);
        due.states("when the owner wrote", byOwner, 5, "1310");
        SnoopBus byNewcomer = Fixtures.holding(3, Fixtures.MODIFIED);
        byNewcomer.write(3, 10, 77);
        due.states("when one that did not hold it wrote", byNewcomer, 5, "0103");
        due.same("flush() of one owner", byNewcomer.flush(), 1);
        due.same("memory(10)", byNewcomer.memory(10), 77);
    }

    private void updateWithOthers() {
        SnoopBus one = Fixtures.holding(3, Fixtures.SHARED);
        one.read(0, 10);
        due.same("write(1, 10, 9), one other", one.write(1, 10, 9), 1);
        due.states("after an UPDATE of one", one, 5, "1300");
        SnoopBus three = Fixtures.sharing(3, Fixtures.SHARED);
        three.read(3, 10);
        due.same("write(3, 10, 9), three others", three.write(3, 10, 9), 1);
        due.states("after an UPDATE of three", three, 5, "1113");
        due.same("write(3, 10, 8), OWNED with others", three.write(3, 10, 8), 1);
        due.states("after a second UPDATE", three, 5, "1113");
    }

    private void updateWithoutOthers() {
        SnoopBus shared = Fixtures.holding(3, Fixtures.SHARED);
        due.same("write(1, 10, 9), SHARED alone", shared.write(1, 10, 9), 1);
        due.same("latest(0)", shared.latest(0), 192 + 16 + 5);
        due.states("after an UPDATE alone", shared, 5, "0400");
        due.same("write(1, 10, 8), MODIFIED now", shared.write(1, 10, 8), 0);
        SnoopBus owned = Fixtures.holding(3, Fixtures.OWNED);
        owned.read(0, 6);
        due.same("write(1, 10, 9), OWNED alone", owned.write(1, 10, 9), 1);
        due.same("latest(0)", owned.latest(0), 192 + 16 + 5);
        due.states("after an UPDATE alone, another block in the same line elsewhere", owned, 5, "0400");
        due.same("count(3)", owned.count(3), 1);
    }

    private void newWordInTheEnd() {
        for (int protocol = 0; protocol < 4; protocol++) {
            for (int state = 1; state <= 4; state++) {
                if (Fixtures.isReachable(protocol, state)) {
                    writeThenLook("a hit", Fixtures.holding(protocol, state), 1);
                    writeThenLook("a miss beside a holder", Fixtures.holding(protocol, state), 0);
                }
            }
            SnoopBus nobody = Due.bus(protocol);
            Fixtures.putInMemory(nobody, 5, 31, 32);
            writeThenLook("a miss alone", nobody, 2);
        }
    }

    private void writeThenLook(String when, SnoopBus bus, int processor) {
        bus.write(processor, 11, 66);
        due.same("the new word, " + when, bus.cached(processor, 11), 66);
        due.same("the other word, " + when, bus.cached(processor, 10), 31);
        bus.write(processor, 10, 65);
        due.same("the new first word, " + when, bus.cached(processor, 10), 65);
        due.same("the second word, " + when, bus.cached(processor, 11), 66);
    }
}
