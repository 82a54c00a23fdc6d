/** Promises 12 and 13: hits and misses count the accesses, of reads and of writes. */
public final class P12P13HitsAndMissesTest {
    public static void main(String[] args) {
        Due due = new Due();
        for (int protocol = 0; protocol < 4; protocol++) {
            SnoopBus bus = Due.bus(protocol);
            both(due, "at first", bus, 0, 0);
            bus.read(0, 10);
            both(due, "after a read miss", bus, 0, 1);
            bus.read(0, 11);
            both(due, "after a read hit", bus, 1, 1);
            bus.write(0, 10, 1);
            both(due, "after a write hit", bus, 2, 1);
            bus.write(1, 10, 2);
            both(due, "after a write miss", bus, 2, 2);
            bus.read(0, 10);
            both(due, "after another wrote", bus, protocol == 3 ? 3 : 2, protocol == 3 ? 2 : 3);
            int hits = bus.hits();
            int misses = bus.misses();
            bus.write(0, 11, 4);
            both(due, "after a write hit of a shared block", bus, hits + 1, misses);
            callsThatAreNoAccess(due, bus);
            both(due, "after calls that are no access", bus, hits + 1, misses);
            bus.read(0, 10);
            both(due, "after a flush and a read", bus, hits + 1, misses + 1);
            bus.read(0, 14);
            bus.read(0, 10);
            both(due, "after two blocks fought for a line", bus, hits + 1, misses + 3);
        }
        due.end();
    }

    private static void both(Due due, String when, SnoopBus bus, int hits, int misses) {
        due.same("hits() " + when, bus.hits(), hits);
        due.same("misses() " + when, bus.misses(), misses);
    }

    private static void callsThatAreNoAccess(Due due, SnoopBus bus) {
        Due.look(bus);
        bus.evict(0, 5);
        bus.flush();
        bus.choose(-1);
        due.throwing("read(0, 32)", IllegalArgumentException.class, bus, x -> x.read(0, 32));
        due.throwing("write(4, 0, 1)", IllegalArgumentException.class, bus, x -> x.write(4, 0, 1));
        due.throwing("evict(0, 0)", IllegalStateException.class, bus, x -> x.evict(0, 0));
    }
}
