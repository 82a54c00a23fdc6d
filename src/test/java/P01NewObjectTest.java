/** Promise 1: a new object is as after choose(0). */
public final class P01NewObjectTest {
    public static void main(String[] args) {
        Due due = new Due();
        SnoopBus chosen = Due.bus(3);
        chosen.write(1, 7, 9);
        chosen.choose(0);
        due.same("all questions of a new object", Due.look(new SnoopBus()), Due.look(chosen));
        SnoopBus fresh = new SnoopBus();
        due.same("protocol()", fresh.protocol(), 0);
        due.counts("of a new object", fresh, "0 0 0 0 0");
        due.same("hits()", fresh.hits(), 0);
        due.same("misses()", fresh.misses(), 0);
        due.latest("of a new object", fresh, -1, -1, -1, -1, -1, -1, -1, -1);
        for (int block = 0; block < 16; block++) {
            due.states("of a new object", fresh, block, "0000");
        }
        objectsAreApart(due);
        due.end();
    }

    private static void objectsAreApart(Due due) {
        SnoopBus one = new SnoopBus();
        SnoopBus other = new SnoopBus();
        one.choose(2);
        one.write(0, 0, 5);
        one.flush();
        due.same("an object after calls on another", Due.look(other), Due.look(new SnoopBus()));
    }
}
