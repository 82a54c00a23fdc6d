/** Promise 14: latest tells the last eight transactions, the newest at 0. */
public final class P14LatestTest {
    public static void main(String[] args) {
        Due due = new Due();
        SnoopBus bus = new SnoopBus();
        due.latest("at first", bus, -1, -1, -1, -1, -1, -1, -1, -1);
        bus.read(0, 0);
        due.latest("after READ of 0 by 0", bus, 0, -1, -1, -1, -1, -1, -1, -1);
        bus.read(3, 31);
        bus.write(3, 31, 1);
        bus.write(2, 30, 2);
        bus.evict(2, 15);
        due.latest("after five", bus, 256 + 47, 64 + 47, 128 + 63, 63, 0, -1, -1, -1);
        bus.read(1, 2);
        bus.read(1, 2);
        bus.read(2, 2);
        due.latest("after seven", bus, 33, 17, 256 + 47, 64 + 47, 128 + 63, 63, 0, -1);
        bus.read(3, 2);
        due.latest("after eight", bus, 49, 33, 17, 256 + 47, 64 + 47, 128 + 63, 63, 0);
        bus.read(0, 2);
        due.latest("after nine", bus, 1, 49, 33, 17, 256 + 47, 64 + 47, 128 + 63, 63);
        wrongInputs(due, bus);
        updateIsKindThree(due);
        bus.choose(0);
        due.latest("after choose", bus, -1, -1, -1, -1, -1, -1, -1, -1);
        due.end();
    }

    private static void updateIsKindThree(Due due) {
        SnoopBus bus = Due.bus(3);
        bus.read(1, 8);
        bus.read(2, 8);
        bus.write(2, 9, 1);
        due.latest("after an UPDATE", bus, 192 + 32 + 4, 32 + 4, 16 + 4, -1);
    }

    private static void wrongInputs(Due due, SnoopBus bus) {
        for (int k : new int[] {-1, 8, 9, Integer.MIN_VALUE, Integer.MAX_VALUE}) {
            due.same("latest(" + k + ")", bus.latest(k), -1);
        }
    }
}
