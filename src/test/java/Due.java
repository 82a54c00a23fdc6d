import java.util.function.Consumer;
import java.util.function.Supplier;

/** Collects the answers that are not the ones due, and looks at whole objects at once. */
final class Due {
    static final int[] NO_PROCESSORS = {-1, 4, Integer.MIN_VALUE, Integer.MAX_VALUE};
    static final int[] NO_ADDRESSES = {-1, 32, Integer.MIN_VALUE, Integer.MAX_VALUE};
    static final int[] NO_BLOCKS = {-1, 16, Integer.MIN_VALUE, Integer.MAX_VALUE};

    private static final int SHOWN = 100;

    private int asked = 0;
    private int wrong = 0;

    static SnoopBus bus(int protocol) {
        SnoopBus bus = new SnoopBus();
        bus.choose(protocol);
        return bus;
    }

    /** A bus on which every kind of thing has happened; cache 1 holds block 3 dirty, cache 3 block 4. */
    static SnoopBus used(int protocol) {
        SnoopBus bus = bus(protocol);
        bus.write(0, 6, 11);
        bus.read(1, 6);
        bus.write(1, 7, 12);
        bus.write(1, 7, 13);
        bus.write(3, 8, 14);
        bus.evict(3, 4);
        bus.write(3, 9, 15);
        return bus;
    }

    void same(String call, Object got, Object want) {
        asked++;
        if (!got.equals(want)) {
            wrong++;
            if (wrong <= SHOWN) {
                System.out.println(call + " answered " + got + ", due is " + want);
            }
        }
    }

    /**
     * The test of one sentence of the document. It stands alone: whatever goes wrong in it is told with
     * the sentence, and the next one is still looked at.
     */
    void sentence(String words, Runnable test) {
        int askedBefore = asked;
        int wrongBefore = wrong;
        try {
            test.run();
        } catch (RuntimeException e) {
            same("a call", e.toString(), "an answer");
        }
        if (asked == askedBefore) {
            same("the test of the sentence", "nothing asked", "something asked");
        }
        System.out.println((wrong == wrongBefore ? "  ok: " : "  FAILED: ") + words);
    }

    void throwing(String call, Class<?> want, SnoopBus bus, Consumer<SnoopBus> attempt) {
        Object got = "nothing thrown";
        try {
            attempt.accept(bus);
        } catch (RuntimeException e) {
            got = e.getClass();
        }
        same(call, got, want);
    }

    /** The call throws exactly this exception, and the object is then like one that was never asked. */
    void refuses(String call, Class<?> want, Supplier<SnoopBus> make, Consumer<SnoopBus> attempt) {
        SnoopBus bus = make.get();
        throwing(call, want, bus, attempt);
        same("all questions after " + call, look(bus), look(make.get()));
    }

    /** The states of a block in the four caches, processor 0 first: "4000" is MODIFIED in cache 0 alone. */
    void states(String when, SnoopBus bus, int block, String want) {
        StringBuilder got = new StringBuilder();
        for (int processor = 0; processor < 4; processor++) {
            got.append(bus.state(processor, block));
        }
        same("states of block " + block + " " + when, got.toString(), want);
    }

    /** The latest transactions, the newest first. */
    void latest(String when, SnoopBus bus, int... want) {
        for (int k = 0; k < want.length; k++) {
            same("latest(" + k + ") " + when, bus.latest(k), want[k]);
        }
    }

    /** The counts of READ, OWN, UPGRADE, UPDATE and BACK. */
    void counts(String when, SnoopBus bus, String want) {
        StringBuilder got = new StringBuilder();
        for (int kind = 0; kind < 5; kind++) {
            got.append(kind == 0 ? "" : " ").append(bus.count(kind));
        }
        same("counts " + when, got.toString(), want);
    }

    /**
     * The answers to all questions about an object: 240 calls. An object is promised for 512, so a test
     * may look twice and do little else.
     */
    static String look(SnoopBus bus) {
        return look(() -> bus);
    }

    /** The same, each question asked of an object that the maker gives for it. */
    static String look(Supplier<SnoopBus> maker) {
        StringBuilder all = new StringBuilder("protocol ").append(maker.get().protocol());
        all.append(" hits ").append(maker.get().hits()).append(" misses ").append(maker.get().misses());
        for (int kind = 0; kind < 5; kind++) {
            all.append(" count ").append(maker.get().count(kind));
        }
        for (int k = 0; k < 8; k++) {
            all.append(" latest ").append(maker.get().latest(k));
        }
        for (int address = 0; address < 32; address++) {
            all.append(" memory ").append(maker.get().memory(address));
        }
        for (int processor = 0; processor < 4; processor++) {
            for (int block = 0; block < 16; block++) {
                all.append(" state ").append(maker.get().state(processor, block));
            }
            for (int address = 0; address < 32; address++) {
                all.append(" cached ").append(maker.get().cached(processor, address));
            }
        }
        return all.toString();
    }

    void end() {
        System.out.println(asked + " answers looked at, " + wrong + " not as due");
        if (wrong != 0 || asked == 0) {
            System.exit(1);
        }
    }
}
