import java.util.ArrayList;
import java.util.Arrays;
import java.util.HashSet;
import java.util.List;
import java.util.Set;

/**
 * Two blocks that can only be in the same line, in every arrangement over the four caches that calls can
 * bring about: from each of them every command, in each protocol, against the model.
 */
public final class EveryArrangementTest {
    private static final int[] BLOCKS = {4, 6};
    private static final int[] ADDRESSES = {8, 9, 12, 13};
    private static final int READS = 16;
    private static final int WRITES = 16;
    private static final int EVICTIONS = 8;
    private static final int COMMANDS = READS + WRITES + EVICTIONS + 1;
    // Found by a run, then checked by hand: each cache holds neither block, the one or the other. A block that n caches hold has 1 way
    // if they must all be SHARED, 1 + n if one of them may be OWNED; held by one cache alone it has 2, 3, 4, 4 ways.
    private static final int[] ARRANGEMENTS = {157, 257, 773, 773};

    private final Due due = new Due();

    public static void main(String[] args) {
        EveryArrangementTest test = new EveryArrangementTest();
        for (int protocol = 0; protocol < 4; protocol++) {
            test.due.same("arrangements in protocol " + protocol, test.goThrough(protocol), ARRANGEMENTS[protocol]);
        }
        test.due.end();
    }

    /** Answers how many arrangements there are; each is told by the shortest run of commands that leads to it. */
    private int goThrough(int protocol) {
        Set<String> known = new HashSet<>();
        List<int[]> runs = new ArrayList<>();
        runs.add(new int[0]);
        known.add(arrangement(new Model(protocol)));
        for (int next = 0; next < runs.size(); next++) {
            for (int command = 0; command < COMMANDS; command++) {
                int[] longer = longer(runs.get(next), command);
                if (known.add(arrangement(follow(protocol, longer)))) {
                    runs.add(longer);
                }
            }
        }
        return runs.size();
    }

    private static int[] longer(int[] run, int command) {
        int[] all = Arrays.copyOf(run, run.length + 1);
        all[run.length] = command;
        return all;
    }

    private Model follow(int protocol, int[] run) {
        SnoopBus bus = Due.bus(protocol);
        Model model = new Model(protocol);
        for (int step = 0; step < run.length; step++) {
            give(run[step], step + 1, bus, model);
        }
        model.compareAll(due, bus);
        return model;
    }

    /** The word is another one at each step of a run, so that no copy can be right by chance. */
    private void give(int command, int word, SnoopBus bus, Model model) {
        int processor = command % 4;
        int which = command / 4 % 4;
        if (command < READS) {
            due.same("read", bus.read(processor, ADDRESSES[which]), model.read(processor, ADDRESSES[which]));
        } else if (command < READS + WRITES) {
            due.same("write", bus.write(processor, ADDRESSES[which], word), model.write(processor, ADDRESSES[which], word));
        } else if (command < READS + WRITES + EVICTIONS) {
            evict(processor, BLOCKS[which], bus, model);
        } else {
            due.same("flush", bus.flush(), model.flush());
        }
    }

    private void evict(int processor, int block, SnoopBus bus, Model model) {
        if (model.holds(processor, block)) {
            due.same("evict", bus.evict(processor, block), model.evict(processor, block));
        } else {
            due.throwing("evict", IllegalStateException.class, bus, x -> x.evict(processor, block));
        }
    }

    private static String arrangement(Model model) {
        StringBuilder states = new StringBuilder();
        for (int block : BLOCKS) {
            for (int processor = 0; processor < 4; processor++) {
                states.append(model.state(processor, block));
            }
        }
        return states.toString();
    }
}
