import java.util.function.Supplier;

/** Promise 5: write is a write access, in each protocol, and answers how many transactions it needed. */
public final class P05WriteTest {
    public static void main(String[] args) {
        Due due = new Due();
        for (int protocol = 0; protocol < 4; protocol++) {
            writeOfModified(due, protocol);
            writeOverDirtyBlock(due, protocol);
            wrongInputs(due, protocol);
            exclusiveBecomesModified(due, protocol);
        }
        for (int protocol = 0; protocol < 3; protocol++) {
            invalidatingMiss(due, protocol);
            invalidatingHit(due, protocol);
        }
        upgradeOfOwned(due);
        updatingMiss(due);
        updatingHit(due);
        updateWithoutOthers(due);
        due.end();
    }

    private static void writeOfModified(Due due, int protocol) {
        SnoopBus bus = Due.bus(protocol);
        due.same("write(3, 9, -7), a miss", bus.write(3, 9, -7), 1);
        due.states("after a write", bus, 4, "0004");
        due.same("write(3, 9, -7) again", bus.write(3, 9, -7), 0);
        due.same("write(3, 8, 6)", bus.write(3, 8, 6), 0);
        due.states("after more writes", bus, 4, "0004");
        due.same("cached(3, 8)", bus.cached(3, 8), 6);
        due.same("cached(3, 9)", bus.cached(3, 9), -7);
        due.same("memory(9)", bus.memory(9), 0);
        due.same("latest(0)", bus.latest(0), (protocol == 3 ? 0 : 64) + 48 + 4);
        due.same("write of the greatest word", bus.write(3, 9, Integer.MAX_VALUE), 0);
        due.same("read of the greatest word", bus.read(3, 9), Integer.MAX_VALUE);
        due.same("write of the least word", bus.write(3, 9, Integer.MIN_VALUE), 0);
        due.same("read of the least word", bus.read(0, 9), Integer.MIN_VALUE);
    }

    private static void writeOverDirtyBlock(Due due, int protocol) {
        SnoopBus bus = Due.bus(protocol);
        bus.write(0, 1, 3);
        bus.write(1, 28, 4);
        bus.write(1, 4, 5);
        due.same("write(0, 28, 6) over a dirty block", bus.write(0, 28, 6), 2);
        due.same("memory(1)", bus.memory(1), 3);
        due.same("memory(28)", bus.memory(28), 4);
        due.states("of the written block", bus, 14, "4000");
        bus.write(1, 29, 8);
        due.states("of a block that another wrote", bus, 14, protocol == 3 ? "1300" : "0400");
        bus.write(0, 2, 1);
        bus.write(0, 0, 1);
        due.same("write(0, 28, 9) of what another has", bus.write(0, 28, 9), protocol == 3 ? 3 : 2);
        due.same("latest(0)", bus.latest(0), protocol == 3 ? 192 + 14 : 64 + 14);
        due.same("memory(0)", bus.memory(0), 1);
    }

    private static void exclusiveBecomesModified(Due due, int protocol) {
        SnoopBus bus = Due.bus(protocol);
        bus.read(2, 12);
        due.same("write(2, 12, 1) after its read", bus.write(2, 12, 1), protocol == 0 ? 1 : 0);
        due.states("after a write of what was read", bus, 6, "0040");
        due.counts("after a write of what was read", bus, protocol == 0 ? "1 0 1 0 0" : "1 0 0 0 0");
        bus.read(0, 18);
        due.same("write(0, 19, 0) of the word it has", bus.write(0, 19, 0), protocol == 0 ? 1 : 0);
        due.states("after a write of the same word", bus, 9, "4000");
    }

    private static void invalidatingMiss(Due due, int protocol) {
        SnoopBus bus = Due.bus(protocol);
        bus.write(1, 20, 5);
        bus.write(1, 21, 6);
        due.same("write(0, 21, 7)", bus.write(0, 21, 7), 1);
        due.states("after an OWN from a dirty holder", bus, 10, "4000");
        due.same("cached(0, 20)", bus.cached(0, 20), 5);
        due.same("cached(0, 21)", bus.cached(0, 21), 7);
        due.same("memory(20)", bus.memory(20), 0);
        due.counts("after two OWNs", bus, "0 2 0 0 0");
        bus.read(1, 20);
        bus.read(2, 20);
        due.same("write(3, 20, 8)", bus.write(3, 20, 8), 1);
        due.states("after an OWN from three holders", bus, 10, "0004");
        due.same("cached(3, 21)", bus.cached(3, 21), 7);
        due.same("latest(0)", bus.latest(0), 64 + 48 + 10);
        due.same("count(4)", bus.count(4), 0);
    }

    private static void invalidatingHit(Due due, int protocol) {
        SnoopBus bus = Due.bus(protocol);
        bus.read(0, 2);
        bus.read(1, 2);
        bus.read(2, 2);
        bus.read(3, 6);
        due.same("write(1, 3, 9) of a shared block", bus.write(1, 3, 9), 1);
        due.states("after an UPGRADE", bus, 1, "0400");
        due.same("state(3, 3), another block in the same line", bus.state(3, 3), protocol == 0 ? 1 : 2);
        due.counts("after an UPGRADE", bus, "4 0 1 0 0");
        due.same("latest(0)", bus.latest(0), 128 + 16 + 1);
        due.same("read(0, 3)", bus.read(0, 3), 9);
        due.same("read(0, 2)", bus.read(0, 2), 0);
        bus.evict(1, 1);
        due.same("write(0, 3, 1), shared with nobody", bus.write(0, 3, 1), 1);
        due.same("count(2)", bus.count(2), 2);
    }

    private static void upgradeOfOwned(Due due) {
        SnoopBus bus = Due.bus(2);
        bus.write(0, 14, 1);
        bus.read(1, 14);
        bus.read(3, 14);
        due.states("before an UPGRADE by the owner", bus, 7, "3101");
        due.same("write(0, 14, 2) by the owner", bus.write(0, 14, 2), 1);
        due.states("after an UPGRADE by the owner", bus, 7, "4000");
        due.counts("after an UPGRADE by the owner", bus, "2 1 1 0 0");
        bus.read(1, 14);
        due.same("write(1, 15, 3) by a sharer", bus.write(1, 15, 3), 1);
        due.states("after an UPGRADE by a sharer", bus, 7, "0400");
        due.same("cached(1, 14)", bus.cached(1, 14), 2);
        due.same("memory(14)", bus.memory(14), 0);
        due.same("flush()", bus.flush(), 1);
        due.same("memory(14)", bus.memory(14), 2);
        due.same("memory(15)", bus.memory(15), 3);
    }

    private static void updatingMiss(Due due) {
        SnoopBus bus = Due.bus(3);
        due.same("write(0, 6, 1), nobody else", bus.write(0, 6, 1), 1);
        due.counts("after a write miss alone", bus, "1 0 0 0 0");
        due.same("write(1, 7, 2), one other", bus.write(1, 7, 2), 2);
        due.states("after an UPDATE", bus, 3, "1300");
        due.latest("after an UPDATE", bus, 192 + 16 + 3, 16 + 3, 3);
        due.same("cached(0, 6)", bus.cached(0, 6), 1);
        due.same("cached(0, 7)", bus.cached(0, 7), 2);
        due.same("cached(1, 6)", bus.cached(1, 6), 1);
        due.same("memory(7)", bus.memory(7), 0);
        bus.read(2, 8);
        due.same("write(2, 6, 3), two others", bus.write(2, 6, 3), 2);
        due.states("after an UPDATE of two", bus, 3, "1130");
        due.same("cached(0, 6)", bus.cached(0, 6), 3);
        due.same("cached(1, 6)", bus.cached(1, 6), 3);
    }

    private static void updatingHit(Due due) {
        SnoopBus bus = Due.bus(3);
        bus.read(0, 6);
        bus.read(1, 6);
        bus.read(2, 6);
        bus.read(3, 2);
        due.same("write(2, 6, 4) of a shared block", bus.write(2, 6, 4), 1);
        due.states("after an UPDATE by a sharer", bus, 3, "1130");
        due.same("cached(3, 2), another block in the same line", bus.cached(3, 2), 0);
        due.same("state(3, 1)", bus.state(3, 1), 2);
        due.same("write(2, 6, 4) again, by the owner", bus.write(2, 6, 4), 1);
        due.states("after an UPDATE by the owner", bus, 3, "1130");
        due.same("write(0, 7, 5)", bus.write(0, 7, 5), 1);
        due.states("after the owner changed", bus, 3, "3110");
        due.counts("after three UPDATEs", bus, "4 0 0 3 0");
        due.same("flush()", bus.flush(), 1);
        due.same("memory(6)", bus.memory(6), 4);
        due.same("memory(7)", bus.memory(7), 5);
    }

    private static void updateWithoutOthers(Due due) {
        SnoopBus bus = Due.bus(3);
        bus.read(0, 6);
        bus.read(1, 6);
        bus.evict(0, 3);
        due.states("when the other has gone", bus, 3, "0100");
        due.same("write(1, 6, 4), shared with nobody", bus.write(1, 6, 4), 1);
        due.states("after an UPDATE of nobody", bus, 3, "0400");
        due.same("write(1, 6, 5)", bus.write(1, 6, 5), 0);
        bus.read(2, 6);
        bus.evict(2, 3);
        due.states("of an owner alone", bus, 3, "0300");
        due.same("write(1, 6, 6) by an owner alone", bus.write(1, 6, 6), 1);
        due.states("after an UPDATE by an owner alone", bus, 3, "0400");
        due.counts("after two UPDATEs of nobody", bus, "3 0 0 2 0");
    }

    private static void wrongInputs(Due due, int protocol) {
        Supplier<SnoopBus> make = () -> Due.used(protocol);
        for (int processor : Due.NO_PROCESSORS) {
            due.refuses("write(" + processor + ", 0, 2)", IllegalArgumentException.class, make,
                    bus -> bus.write(processor, 0, 2));
        }
        for (int address : Due.NO_ADDRESSES) {
            due.refuses("write(0, " + address + ", 2)", IllegalArgumentException.class, make,
                    bus -> bus.write(0, address, 2));
        }
        due.refuses("write(-1, -1, 2)", IllegalArgumentException.class, make, bus -> bus.write(-1, -1, 2));
    }
}
