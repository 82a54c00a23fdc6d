/** Promise 2: choose starts over with a protocol, or refuses and leaves all as it is. */
public final class P02ChooseTest {
    public static void main(String[] args) {
        Due due = new Due();
        for (int before = 0; before < 4; before++) {
            for (int protocol = 0; protocol < 4; protocol++) {
                SnoopBus bus = Due.used(before);
                due.same("choose(" + protocol + ")", bus.choose(protocol), true);
                due.same("protocol()", bus.protocol(), protocol);
                due.same("all questions after choose", Due.look(bus), Due.look(Due.bus(protocol)));
                due.same("read after choose", bus.read(2, 6), 0);
                due.same("read after choose", bus.read(2, 9), 0);
            }
            for (int protocol : new int[] {-1, 4, 5, Integer.MIN_VALUE, Integer.MAX_VALUE}) {
                SnoopBus bus = Due.used(before);
                due.same("choose(" + protocol + ")", bus.choose(protocol), false);
                due.same("all questions after a refused choose", Due.look(bus), Due.look(Due.used(before)));
            }
        }
        due.end();
    }
}
