/** Promise 11: count tells how many transactions of a kind there were, -1 for no kind. */
public final class P11CountTest {
    public static void main(String[] args) {
        Due due = new Due();
        invalidating(due);
        updating(due);
        manyOfOneKind(due);
        due.end();
    }

    private static void invalidating(Due due) {
        SnoopBus bus = Due.bus(1);
        due.counts("at first", bus, "0 0 0 0 0");
        bus.read(0, 0);
        due.counts("after a READ", bus, "1 0 0 0 0");
        bus.write(1, 2, 1);
        due.counts("after an OWN", bus, "1 1 0 0 0");
        bus.read(2, 0);
        bus.write(2, 0, 1);
        due.counts("after an UPGRADE", bus, "2 1 1 0 0");
        bus.evict(2, 0);
        due.counts("after a BACK", bus, "2 1 1 0 1");
        wrongInputs(due, bus);
    }

    private static void updating(Due due) {
        SnoopBus bus = Due.bus(3);
        bus.write(0, 0, 1);
        bus.write(1, 0, 2);
        due.counts("after an UPDATE", bus, "2 0 0 1 0");
        bus.read(1, 4);
        due.counts("after a BACK by a load", bus, "3 0 0 1 1");
        wrongInputs(due, bus);
    }

    private static void manyOfOneKind(Due due) {
        SnoopBus bus = new SnoopBus();
        for (int call = 0; call < 500; call++) {
            bus.write(call % 2, 0, call);
        }
        due.counts("after 500 OWNs", bus, "0 500 0 0 0");
    }

    private static void wrongInputs(Due due, SnoopBus bus) {
        for (int kind : new int[] {-1, 5, 6, Integer.MIN_VALUE, Integer.MAX_VALUE}) {
            due.same("count(" + kind + ")", bus.count(kind), -1);
        }
    }
}
