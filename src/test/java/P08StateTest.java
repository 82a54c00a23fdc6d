/** Promise 8: state tells the state of a block in a cache, -1 where there is none. */
public final class P08StateTest {
    public static void main(String[] args) {
        Due due = new Due();
        SnoopBus bus = Due.bus(2);
        bus.write(0, 6, 1);
        bus.read(1, 6);
        bus.read(2, 8);
        bus.write(3, 31, 1);
        due.same("OWNED", bus.state(0, 3), 3);
        due.same("SHARED", bus.state(1, 3), 1);
        due.same("EXCLUSIVE", bus.state(2, 4), 2);
        due.same("MODIFIED", bus.state(3, 15), 4);
        due.same("INVALID, an empty line", bus.state(0, 0), 0);
        due.same("INVALID, another block in the line", bus.state(0, 5), 0);
        due.same("INVALID, block 0 in an unused line", bus.state(3, 0), 0);
        for (int processor : Due.NO_PROCESSORS) {
            due.same("state(" + processor + ", 3)", bus.state(processor, 3), -1);
        }
        for (int block : Due.NO_BLOCKS) {
            due.same("state(0, " + block + ")", bus.state(0, block), -1);
        }
        for (int protocol = 0; protocol < 4; protocol++) {
            questionsChangeNothing(due, Due.used(protocol));
        }
        due.end();
    }

    private static void questionsChangeNothing(Due due, SnoopBus bus) {
        String before = Due.look(bus);
        due.same("all questions asked again", Due.look(bus), before);
    }
}
