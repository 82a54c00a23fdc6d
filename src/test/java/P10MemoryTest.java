/** Promise 10: memory tells the memory's word, not a cache's, and 0 where there is none. */
public final class P10MemoryTest {
    public static void main(String[] args) {
        Due due = new Due();
        for (int protocol = 0; protocol < 4; protocol++) {
            SnoopBus bus = Due.bus(protocol);
            for (int address = 0; address < 32; address++) {
                due.same("memory(" + address + ") at first", bus.memory(address), 0);
                bus.write(address % 3, address, 1000 - address);
                due.same("memory(" + address + ") before a BACK", bus.memory(address), 0);
                bus.flush();
                due.same("memory(" + address + ") after a BACK", bus.memory(address), 1000 - address);
            }
            for (int address = 0; address < 32; address++) {
                due.same("memory(" + address + ") in the end", bus.memory(address), 1000 - address);
            }
            for (int address : Due.NO_ADDRESSES) {
                due.same("memory(" + address + ")", bus.memory(address), 0);
            }
        }
        due.end();
    }
}
