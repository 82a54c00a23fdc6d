/** Promise 1: a new object is as after choose(0). */
public final class P01NewObjectTest {
    public static void main(String[] args) {
        Due due = new Due();
        SnoopBus fresh = new SnoopBus();
        String atFirst = Due.look(fresh);
        SnoopBus chosen = Due.bus(3);
        chosen.write(1, 7, 9);
        chosen.choose(0);
        due.same("a new object", atFirst, Due.look(chosen));
        due.same("asked again", Due.look(fresh), atFirst);
        due.same("protocol()", fresh.protocol(), 0);
        due.counts("of a new object", fresh, "0 0 0 0 0");
        due.same("hits()", fresh.hits(), 0);
        due.same("misses()", fresh.misses(), 0);
        due.latest("of a new object", fresh, -1, -1, -1, -1, -1, -1, -1, -1);
        for (int block = 0; block < 16; block++) {
            due.states("of a new object", fresh, block, "0000");
        }
        objectsAreApart(due);
        due.end();
    }

    private static void objectsAreApart(Due due) {
        SnoopBus one = new SnoopBus();
        SnoopBus other = new SnoopBus();
        String before = Due.look(other);
        one.choose(2);
        one.write(0, 0, 5);
        one.flush();
        due.same("an object after calls on another", Due.look(other), before);
    }
}
