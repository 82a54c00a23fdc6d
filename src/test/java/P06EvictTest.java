import java.util.function.Supplier;

/** Promise 6: evict empties the line that holds a block and answers whether a BACK was needed. */
public final class P06EvictTest {
    public static void main(String[] args) {
        Due due = new Due();
        for (int protocol = 0; protocol < 4; protocol++) {
            evictOfModified(due, protocol);
            evictOfClean(due, protocol);
            wrongInputs(due, protocol);
        }
        evictOfOwned(due, 2);
        evictOfOwned(due, 3);
        due.end();
    }

    private static void evictOfModified(Due due, int protocol) {
        SnoopBus bus = Due.bus(protocol);
        bus.write(2, 22, 8);
        bus.write(2, 23, 9);
        bus.write(2, 0, 7);
        due.same("evict(2, 11)", bus.evict(2, 11), true);
        due.states("after evict", bus, 11, "0000");
        due.states("of the other line", bus, 0, "0040");
        due.same("memory(22)", bus.memory(22), 8);
        due.same("memory(23)", bus.memory(23), 9);
        due.same("memory(0)", bus.memory(0), 0);
        due.same("latest(0)", bus.latest(0), 256 + 32 + 11);
        due.same("count(4)", bus.count(4), 1);
        due.same("hits()", bus.hits(), 1);
        due.same("misses()", bus.misses(), 2);
        due.throwing("evict(2, 11) again", IllegalStateException.class, bus, x -> x.evict(2, 11));
    }

    private static void evictOfClean(Due due, int protocol) {
        SnoopBus bus = Due.bus(protocol);
        bus.read(0, 30);
        due.same("evict(0, 15), read alone", bus.evict(0, 15), false);
        bus.read(0, 30);
        bus.read(1, 30);
        due.same("evict(0, 15), shared", bus.evict(0, 15), false);
        due.states("after evict of a shared block", bus, 15, "0100");
        due.counts("after clean evicts", bus, "3 0 0 0 0");
    }

    private static void evictOfOwned(Due due, int protocol) {
        SnoopBus bus = Due.bus(protocol);
        bus.write(3, 10, 4);
        bus.read(0, 10);
        due.same("evict(3, 5), owned", bus.evict(3, 5), true);
        due.states("after evict of an owned block", bus, 5, "1000");
        due.same("memory(10)", bus.memory(10), 4);
        due.same("evict(0, 5), shared", bus.evict(0, 5), false);
        due.same("count(4)", bus.count(4), 1);
    }

    private static void wrongInputs(Due due, int protocol) {
        Supplier<SnoopBus> make = () -> Due.used(protocol);
        for (int processor : Due.NO_PROCESSORS) {
            due.refuses("evict(" + processor + ", 3)", IllegalArgumentException.class, make,
                    bus -> bus.evict(processor, 3));
        }
        for (int block : Due.NO_BLOCKS) {
            due.refuses("evict(1, " + block + ")", IllegalArgumentException.class, make,
                    bus -> bus.evict(1, block));
        }
        due.refuses("evict(-1, 16)", IllegalArgumentException.class, make, bus -> bus.evict(-1, 16));
        notHeld(due, make, 1, 5, "another block in the line");
        notHeld(due, make, 2, 3, "another cache has it");
        notHeld(due, make, 2, 15, "an empty line");
        notHeld(due, make, 2, 0, "an empty line");
        if (protocol < 3) {
            notHeld(due, make, 0, 3, "another cache has taken it");
        }
    }

    private static void notHeld(Due due, Supplier<SnoopBus> make, int processor, int block, String why) {
        due.refuses("evict(" + processor + ", " + block + "), " + why, IllegalStateException.class, make,
                bus -> bus.evict(processor, block));
    }
}
