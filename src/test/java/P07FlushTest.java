/** Promise 7: flush empties all lines, in their order, and answers how many BACKs that needed. */
public final class P07FlushTest {
    public static void main(String[] args) {
        Due due = new Due();
        for (int protocol = 0; protocol < 4; protocol++) {
            flushOfNothing(due, protocol);
            flushOfAllLines(due, protocol);
            flushOfShared(due, protocol);
        }
        due.end();
    }

    private static void flushOfNothing(Due due, int protocol) {
        SnoopBus bus = Due.bus(protocol);
        due.same("flush() of a new object", bus.flush(), 0);
        due.same("all questions after it", Due.look(bus), Due.look(Due.bus(protocol)));
        bus.read(0, 0);
        bus.read(3, 3);
        due.same("flush() of clean lines", bus.flush(), 0);
        due.states("after flush", bus, 0, "0000");
        due.states("after flush", bus, 1, "0000");
        due.counts("after flush of clean lines", bus, "2 0 0 0 0");
    }

    private static void flushOfAllLines(Due due, int protocol) {
        SnoopBus bus = Due.bus(protocol);
        for (int block = 7; block >= 0; block--) {
            bus.write(block / 2, 2 * block, 50 + block);
            bus.write(block / 2, 2 * block + 1, 60 + block);
        }
        due.same("flush()", bus.flush(), 8);
        due.latest("after flush", bus, 256 + 55, 256 + 54, 256 + 37, 256 + 36, 256 + 19, 256 + 18, 256 + 1, 256);
        for (int block = 0; block < 8; block++) {
            due.states("after flush", bus, block, "0000");
            due.same("memory after flush", bus.memory(2 * block), 50 + block);
            due.same("memory after flush", bus.memory(2 * block + 1), 60 + block);
        }
        due.same("count(4)", bus.count(4), 8);
        due.same("hits()", bus.hits(), 8);
        due.same("misses()", bus.misses(), 8);
        due.same("flush() again", bus.flush(), 0);
    }

    private static void flushOfShared(Due due, int protocol) {
        SnoopBus bus = Due.bus(protocol);
        bus.write(1, 16, 3);
        bus.read(0, 16);
        bus.read(2, 16);
        due.same("flush() of a shared block", bus.flush(), protocol < 2 ? 0 : 1);
        due.same("memory(16)", bus.memory(16), 3);
        due.same("latest(0)", bus.latest(0), protocol < 2 ? 32 + 8 : 256 + 16 + 8);
        due.states("after flush", bus, 8, "0000");
    }
}
