/** Promise 3: protocol tells the protocol, whatever else was called. */
public final class P03ProtocolTest {
    public static void main(String[] args) {
        Due due = new Due();
        SnoopBus bus = new SnoopBus();
        due.same("protocol() of a new object", bus.protocol(), 0);
        for (int protocol : new int[] {1, 2, 3, 0, 3, 3}) {
            bus.choose(protocol);
            due.same("protocol()", bus.protocol(), protocol);
            bus.write(0, 0, 1);
            bus.read(1, 0);
            bus.flush();
            due.same("protocol() after other calls", bus.protocol(), protocol);
            bus.choose(4);
            bus.choose(-1);
            due.same("protocol() after a refused choose", bus.protocol(), protocol);
        }
        due.end();
    }
}
