import java.util.function.Consumer;
import java.util.function.Supplier;

/** What the document says of all calls: one that throws changes nothing, and neither does a question. */
public final class EdgesOfRefusedCallsTest {
    private final Due due = new Due();

    public static void main(String[] args) {
        new EdgesOfRefusedCallsTest().run();
    }

    private void run() {
        due.sentence("A call that throws changes nothing: read", this::readThrows);
        due.sentence("A call that throws changes nothing: write", this::writeThrows);
        due.sentence("A call that throws changes nothing: evict, no such processor or block", this::evictThrows);
        due.sentence("A call that throws changes nothing: evict, not held", this::evictOfNotHeldThrows);
        due.sentence("Questions change nothing: protocol", () -> asked(SnoopBus::protocol));
        due.sentence("Questions change nothing: state", () -> asked(EdgesOfRefusedCallsTest::askStates));
        due.sentence("Questions change nothing: cached", () -> asked(EdgesOfRefusedCallsTest::askCached));
        due.sentence("Questions change nothing: memory", () -> asked(EdgesOfRefusedCallsTest::askMemory));
        due.sentence("Questions change nothing: count", () -> asked(EdgesOfRefusedCallsTest::askCounts));
        due.sentence("Questions change nothing: hits", () -> asked(SnoopBus::hits));
        due.sentence("Questions change nothing: misses", () -> asked(SnoopBus::misses));
        due.sentence("Questions change nothing: latest", () -> asked(EdgesOfRefusedCallsTest::askLatest));
        due.end();
    }

    private void readThrows() {
        for (int processor : Due.NO_PROCESSORS) {
            refused("read(" + processor + ", 30)", IllegalArgumentException.class, bus -> bus.read(processor, 30));
        }
        for (int address : Due.NO_ADDRESSES) {
            refused("read(2, " + address + ")", IllegalArgumentException.class, bus -> bus.read(2, address));
        }
        refused("read(4, 32)", IllegalArgumentException.class, bus -> bus.read(4, 32));
    }

    private void writeThrows() {
        for (int processor : Due.NO_PROCESSORS) {
            refused("write(" + processor + ", 30, 9)", IllegalArgumentException.class,
                    bus -> bus.write(processor, 30, 9));
        }
        for (int address : Due.NO_ADDRESSES) {
            refused("write(2, " + address + ", 9)", IllegalArgumentException.class,
                    bus -> bus.write(2, address, 9));
        }
        refused("write(-1, -1, 9)", IllegalArgumentException.class, bus -> bus.write(-1, -1, 9));
    }

    private void evictThrows() {
        for (int processor : Due.NO_PROCESSORS) {
            refused("evict(" + processor + ", 1)", IllegalArgumentException.class, bus -> bus.evict(processor, 1));
        }
        for (int block : Due.NO_BLOCKS) {
            refused("evict(2, " + block + ")", IllegalArgumentException.class, bus -> bus.evict(2, block));
        }
        refused("evict(4, -1)", IllegalArgumentException.class, bus -> bus.evict(4, -1));
    }

    /** Nobody holds the blocks 14 and 15, and cache 2 holds none that cache 0 could hold. */
    private void evictOfNotHeldThrows() {
        refused("evict(2, 14)", IllegalStateException.class, bus -> bus.evict(2, 14));
        refused("evict(2, 15)", IllegalStateException.class, bus -> bus.evict(2, 15));
        refused("evict(2, 0)", IllegalStateException.class, bus -> bus.evict(2, 0));
    }

    /** In each protocol, on an object where all lines are dirty, on one where all are empty, and on a used one. */
    private void refused(String call, Class<?> want, Consumer<SnoopBus> attempt) {
        for (int p = 0; p < 4; p++) {
            int protocol = p;
            refusedOn(call, want, () -> Fixtures.full(protocol), attempt);
            refusedOn(call, want, () -> Due.bus(protocol), attempt);
            refusedOn(call, want, () -> Due.used(protocol), attempt);
        }
    }

    private void refusedOn(String call, Class<?> want, Supplier<SnoopBus> make, Consumer<SnoopBus> attempt) {
        due.refuses(call, want, make, attempt);
        SnoopBus bus = make.get();
        due.throwing(call, want, bus, attempt);
        goesOnLike("after " + call, bus, make.get());
    }

    private void asked(Consumer<SnoopBus> questions) {
        for (int p = 0; p < 4; p++) {
            int protocol = p;
            askedOn(questions, () -> Fixtures.full(protocol));
            askedOn(questions, () -> Due.used(protocol));
        }
    }

    /** What each question answers is set against an object that was asked that one question alone. */
    private void askedOn(Consumer<SnoopBus> questions, Supplier<SnoopBus> make) {
        SnoopBus bus = make.get();
        questions.accept(bus);
        due.same("all questions afterwards", Due.look(bus), Due.look(make));
        SnoopBus again = make.get();
        questions.accept(again);
        goesOnLike("after questions", again, make.get());
    }

    /** The object does what its twin does that was not asked, also in what no question shows. */
    private void goesOnLike(String when, SnoopBus bus, SnoopBus twin) {
        due.same("read " + when, bus.read(2, 8), twin.read(2, 8));
        due.same("write " + when, bus.write(1, 30, 7), twin.write(1, 30, 7));
        due.same("write of a third block " + when, bus.write(2, 4, 7), twin.write(2, 4, 7));
        due.same("flush " + when, bus.flush(), twin.flush());
        due.same("all questions in the end " + when, Due.look(bus), Due.look(twin));
    }

    private static void askStates(SnoopBus bus) {
        for (int processor = -1; processor <= 4; processor++) {
            for (int block = -1; block <= 16; block++) {
                bus.state(processor, block);
            }
        }
    }

    private static void askCached(SnoopBus bus) {
        for (int processor = -1; processor <= 4; processor++) {
            for (int address = -1; address <= 32; address++) {
                bus.cached(processor, address);
            }
        }
    }

    private static void askMemory(SnoopBus bus) {
        for (int address = -1; address <= 32; address++) {
            bus.memory(address);
        }
    }

    private static void askCounts(SnoopBus bus) {
        for (int kind = -1; kind <= 5; kind++) {
            bus.count(kind);
        }
    }

    private static void askLatest(SnoopBus bus) {
        for (int k = -1; k <= 8; k++) {
            bus.latest(k);
        }
    }
}
