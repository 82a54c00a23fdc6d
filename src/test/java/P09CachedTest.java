/** Promise 9: cached tells the word that a cache has, 0 where it has none. */
public final class P09CachedTest {
    public static void main(String[] args) {
        Due due = new Due();
        for (int protocol = 0; protocol < 4; protocol++) {
            SnoopBus bus = Due.bus(protocol);
            bus.write(1, 12, 21);
            bus.write(1, 13, -22);
            due.same("cached(1, 12)", bus.cached(1, 12), 21);
            due.same("cached(1, 13)", bus.cached(1, 13), -22);
            due.same("cached(0, 12), not held", bus.cached(0, 12), 0);
            due.same("cached(1, 16), another block of the line", bus.cached(1, 16), 0);
            due.same("cached(1, 14), the other line", bus.cached(1, 14), 0);
            due.same("hits()", bus.hits(), 1);
            due.same("misses()", bus.misses(), 1);
            wrongInputs(due, bus);
            bus.read(2, 13);
            due.same("cached(2, 12)", bus.cached(2, 12), 21);
            bus.evict(2, 6);
            due.same("cached(2, 12) after evict", bus.cached(2, 12), 0);
            bus.flush();
            due.same("cached(1, 13) after flush", bus.cached(1, 13), 0);
        }
        wordsOfBlockZero(due);
        due.end();
    }

    private static void wordsOfBlockZero(Due due) {
        SnoopBus bus = new SnoopBus();
        bus.write(0, 0, 5);
        bus.write(0, 1, 6);
        due.same("cached(0, 0)", bus.cached(0, 0), 5);
        due.same("cached(0, 1)", bus.cached(0, 1), 6);
        bus.write(1, 0, 7);
        due.same("cached(0, 0) after another wrote", bus.cached(0, 0), 0);
        due.same("cached(0, 1) after another wrote", bus.cached(0, 1), 0);
    }

    private static void wrongInputs(Due due, SnoopBus bus) {
        for (int processor : Due.NO_PROCESSORS) {
            due.same("cached(" + processor + ", 12)", bus.cached(processor, 12), 0);
        }
        for (int address : Due.NO_ADDRESSES) {
            due.same("cached(1, " + address + ")", bus.cached(1, address), 0);
        }
    }
}
