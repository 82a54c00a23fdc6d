/** Collects the answers that are not the ones due, and looks at whole objects at once. */
final class Due {
    static final int[] NO_PROCESSORS = {-1, 4, Integer.MIN_VALUE, Integer.MAX_VALUE};
    static final int[] NO_ADDRESSES = {-1, 32, Integer.MIN_VALUE, Integer.MAX_VALUE};
    static final int[] NO_BLOCKS = {-1, 16, Integer.MIN_VALUE, Integer.MAX_VALUE};

    private int asked = 0;
    private int wrong = 0;

    static SnoopBus bus(int protocol) {
        SnoopBus bus = new SnoopBus();
        bus.choose(protocol);
        return bus;
    }

    void same(String call, Object got, Object want) {
        asked++;
        if (!got.equals(want)) {
            wrong++;
            System.out.println(call + " answered " + got + ", due is " + want);
        }
    }

    /** The call throws exactly this exception and changes nothing of the object. */
    void refuses(String call, SnoopBus bus, Class<?> want, Runnable attempt) {
        String before = look(bus);
        Object got = "nothing thrown";
        try {
            attempt.run();
        } catch (RuntimeException e) {
            got = e.getClass();
        }
        same(call, got, want);
        same("all questions after " + call, look(bus), before);
    }

    /** The states of a block in the four caches, processor 0 first: "4000" is MODIFIED in cache 0 alone. */
    void states(String when, SnoopBus bus, int block, String want) {
        StringBuilder got = new StringBuilder();
        for (int processor = 0; processor < 4; processor++) {
            got.append(bus.state(processor, block));
        }
        same("states of block " + block + " " + when, got.toString(), want);
    }

    /** The latest transactions, the newest first. */
    void latest(String when, SnoopBus bus, int... want) {
        for (int k = 0; k < want.length; k++) {
            same("latest(" + k + ") " + when, bus.latest(k), want[k]);
        }
    }

    /** The counts of READ, OWN, UPGRADE, UPDATE and BACK. */
    void counts(String when, SnoopBus bus, String want) {
        StringBuilder got = new StringBuilder();
        for (int kind = 0; kind < 5; kind++) {
            got.append(kind == 0 ? "" : " ").append(bus.count(kind));
        }
        same("counts " + when, got.toString(), want);
    }

    /** The answers to all questions about an object, wrong ones too. */
    static String look(SnoopBus bus) {
        StringBuilder all = new StringBuilder("protocol ").append(bus.protocol());
        all.append(" hits ").append(bus.hits()).append(" misses ").append(bus.misses());
        for (int kind = -1; kind <= 5; kind++) {
            all.append(" count ").append(bus.count(kind));
        }
        for (int k = -1; k <= 8; k++) {
            all.append(" latest ").append(bus.latest(k));
        }
        for (int address = -1; address <= 32; address++) {
            all.append(" memory ").append(bus.memory(address));
        }
        for (int processor = -1; processor <= 4; processor++) {
            for (int block = -1; block <= 16; block++) {
                all.append(" state ").append(bus.state(processor, block));
            }
            for (int address = -1; address <= 32; address++) {
                all.append(" cached ").append(bus.cached(processor, address));
            }
        }
        return all.toString();
    }

    void end() {
        System.out.println(asked + " answers looked at, " + wrong + " not as due");
        if (wrong != 0 || asked == 0) {
            System.exit(1);
        }
    }
}
