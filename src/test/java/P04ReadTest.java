import java.util.function.Supplier;

/** Promise 4: read is a read access, in each protocol. */
public final class P04ReadTest {
    private static final String[] FIRST_READER = {"1000", "2000", "2000", "2000"};
    private static final String[] DIRTY_HOLDER = {"0110", "0110", "0130", "0130"};

    public static void main(String[] args) {
        Due due = new Due();
        for (int protocol = 0; protocol < 4; protocol++) {
            readOfMemory(due, protocol);
            readFromDirtyHolder(due, protocol);
            readOverOtherBlock(due, protocol);
            readBesideDirtyBlock(due, protocol);
            readOfEveryAddress(due, protocol);
            wrongInputs(due, protocol);
        }
        ownedHolderStays(due, 2);
        ownedHolderStays(due, 3);
        due.end();
    }

    private static void readOfMemory(Due due, int protocol) {
        SnoopBus bus = Due.bus(protocol);
        due.same("read(0, 5)", bus.read(0, 5), 0);
        due.states("after the first read", bus, 2, FIRST_READER[protocol]);
        due.same("read(0, 4), a hit", bus.read(0, 4), 0);
        due.states("after a hit", bus, 2, FIRST_READER[protocol]);
        due.counts("after a miss and a hit", bus, "1 0 0 0 0");
        bus.read(3, 4);
        due.states("after the second reader", bus, 2, "1001");
        bus.read(1, 4);
        due.states("after the third reader", bus, 2, "1101");
        due.latest("after three readers", bus, 16 + 2, 48 + 2, 2, -1);
        bus.evict(0, 2);
        bus.evict(3, 2);
        bus.read(1, 5);
        due.states("of the last holder", bus, 2, "0100");
    }

    private static void readFromDirtyHolder(Due due, int protocol) {
        SnoopBus bus = Due.bus(protocol);
        bus.write(2, 30, 77);
        bus.write(2, 31, 78);
        due.same("read(1, 31)", bus.read(1, 31), 78);
        due.states("after a read from a dirty holder", bus, 15, DIRTY_HOLDER[protocol]);
        due.same("cached(1, 30)", bus.cached(1, 30), 77);
        due.same("memory(30)", bus.memory(30), protocol < 2 ? 77 : 0);
        due.same("memory(31)", bus.memory(31), protocol < 2 ? 78 : 0);
        due.same("count(4)", bus.count(4), 0);
        due.same("latest(0)", bus.latest(0), 16 + 15);
    }

    private static void ownedHolderStays(Due due, int protocol) {
        SnoopBus bus = Due.bus(protocol);
        bus.write(2, 30, 77);
        bus.read(1, 30);
        due.same("read(0, 30)", bus.read(0, 30), 77);
        due.states("after a second reader", bus, 15, "1130");
        due.same("memory(30)", bus.memory(30), 0);
        bus.evict(2, 15);
        due.same("memory(30) after the owner went", bus.memory(30), 77);
        due.states("after the owner went", bus, 15, "1100");
        due.same("read(3, 30)", bus.read(3, 30), 77);
        due.states("after a read with no owner", bus, 15, "1101");
    }

    private static void readOverOtherBlock(Due due, int protocol) {
        SnoopBus bus = Due.bus(protocol);
        bus.write(1, 2, 5);
        bus.read(1, 4);
        due.states("in line 1, after a read in line 0", bus, 1, "0400");
        due.same("read(1, 6)", bus.read(1, 6), 0);
        due.states("after its line was taken", bus, 1, "0000");
        due.same("memory(2)", bus.memory(2), 5);
        due.latest("after a read over a dirty block", bus, 16 + 3, 256 + 16 + 1, 16 + 2);
        bus.read(1, 10);
        due.same("count(4) after a read over a clean block", bus.count(4), 1);
        due.same("read(1, 2)", bus.read(1, 2), 5);
    }

    private static void readBesideDirtyBlock(Due due, int protocol) {
        SnoopBus bus = Due.bus(protocol);
        bus.write(0, 6, 8);
        bus.write(0, 2, 5);
        due.same("read(1, 6), another block dirty in the same line elsewhere", bus.read(1, 6), 8);
        due.states("of the dirty block", bus, 1, "4000");
        due.same("memory(2)", bus.memory(2), 0);
        due.same("state(1, 3), read alone", bus.state(1, 3), protocol == 0 ? 1 : 2);
    }

    private static void readOfEveryAddress(Due due, int protocol) {
        SnoopBus bus = Due.bus(protocol);
        for (int address = 0; address < 32; address++) {
            bus.write(address % 4, address, 100 + address);
        }
        for (int address = 0; address < 32; address++) {
            due.same("read of " + address, bus.read((address + 1) % 4, address), 100 + address);
        }
    }

    private static void wrongInputs(Due due, int protocol) {
        Supplier<SnoopBus> make = () -> Due.used(protocol);
        for (int processor : Due.NO_PROCESSORS) {
            due.refuses("read(" + processor + ", 0)", IllegalArgumentException.class, make,
                    bus -> bus.read(processor, 0));
        }
        for (int address : Due.NO_ADDRESSES) {
            due.refuses("read(0, " + address + ")", IllegalArgumentException.class, make,
                    bus -> bus.read(0, address));
        }
        due.refuses("read(4, 32)", IllegalArgumentException.class, make, bus -> bus.read(4, 32));
    }
}
