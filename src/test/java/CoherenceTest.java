import java.util.Random;

/** Long mixed runs in each protocol: against the model, and against what coherence itself asks. */
public final class CoherenceTest {
    private static final int RUNS = 12000;
    // An object is promised for 512 calls; the questions at the end of a run take 240 of them.
    private static final int MOST_CALLS = 270;

    private final Due due = new Due();
    private final Random random = new Random(20261115L);

    public static void main(String[] args) {
        CoherenceTest test = new CoherenceTest();
        for (int run = 0; run < RUNS; run++) {
            // Few addresses make the caches meet; all of them make the lines change hands.
            test.run(run % 4, run % 3 == 0 ? 32 : run % 3 == 1 ? 4 : 10);
        }
        test.due.end();
    }

    private void run(int protocol, int addresses) {
        SnoopBus bus = Due.bus(protocol);
        Model model = new Model(protocol);
        int calls = random.nextInt(MOST_CALLS);
        for (int call = 0; call < calls; call++) {
            step(bus, model, addresses);
        }
        model.compareAll(due, bus);
        checkRules(model);
    }

    private void step(SnoopBus bus, Model model, int addresses) {
        int processor = random.nextInt(4);
        int address = random.nextInt(addresses);
        int kind = random.nextInt(40);
        if (kind < 16) {
            int word = bus.read(processor, address);
            due.same("read against the model", word, model.read(processor, address));
            due.same("read against what was written last", word, model.lastWritten[address]);
        } else if (kind < 32) {
            int word = random.nextInt(9) - 4;
            due.same("write", bus.write(processor, address, word), model.write(processor, address, word));
        } else if (kind < 39) {
            evict(bus, model, processor, address / 2);
        } else {
            due.same("flush", bus.flush(), model.flush());
        }
    }

    private void evict(SnoopBus bus, Model model, int processor, int block) {
        if (model.holds(processor, block)) {
            due.same("evict", bus.evict(processor, block), model.evict(processor, block));
        } else {
            due.throwing("evict", IllegalStateException.class, bus, x -> x.evict(processor, block));
        }
    }

    /**
     * What coherence asks, whatever the protocol: every copy is of the last write, a block has one dirty
     * holder at most, and EXCLUSIVE and MODIFIED are held alone. The bus has just been found like the model.
     */
    private void checkRules(Model model) {
        for (int address = 0; address < 32; address++) {
            int holders = 0;
            int dirty = 0;
            boolean mustBeAlone = false;
            for (int processor = 0; processor < 4; processor++) {
                int state = model.state(processor, address / 2);
                holders += state > 0 ? 1 : 0;
                dirty += state > 2 ? 1 : 0;
                mustBeAlone |= state == 2 || state == 4;
                if (state > 0) {
                    due.same("a copy", model.cached(processor, address), model.lastWritten[address]);
                }
            }
            due.same("one dirty holder at most", dirty <= 1, true);
            due.same("alone where it must be", !mustBeAlone || holders == 1, true);
            if (dirty == 0) {
                due.same("memory where no holder is dirty", model.memory[address], model.lastWritten[address]);
            }
        }
    }
}
