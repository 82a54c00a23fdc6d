import java.util.ArrayList;
import java.util.List;
import java.util.TreeMap;

/** The terms of the document once more, told by maps from processor to copy, to be held against SnoopBus. */
final class Model {
    private static final class Copy {
        final int[] words;
        int state;

        Copy(int[] words, int state) {
            this.words = words;
            this.state = state;
        }

        boolean dirty() {
            return state >= 3;
        }
    }

    final int protocol;
    final int[] memory = new int[32];
    final int[] lastWritten = new int[32];
    private final List<Integer> said = new ArrayList<>();
    private final List<TreeMap<Integer, Copy>> holdersOfBlock = new ArrayList<>();
    int hits = 0;
    int misses = 0;

    Model(int protocol) {
        this.protocol = protocol;
        for (int block = 0; block < 16; block++) {
            holdersOfBlock.add(new TreeMap<>());
        }
    }

    int read(int processor, int address) {
        return access(processor, address / 2, 0).words[address % 2];
    }

    int write(int processor, int address, int word) {
        int before = said.size();
        int block = address / 2;
        Copy mine = access(processor, block, protocol == 3 ? 0 : 1);
        TreeMap<Integer, Copy> holders = holdersOfBlock.get(block);
        boolean weak = mine.state == 1 || mine.state == 3;
        mine.state = 4;
        if (weak && protocol == 3) {
            say(3, processor, block);
            for (Copy copy : holders.values()) {
                copy.state = 1;
                copy.words[address % 2] = word;
            }
            mine.state = holders.size() > 1 ? 3 : 4;
        } else if (weak) {
            say(2, processor, block);
            holders.keySet().removeIf(other -> other != processor);
        }
        mine.words[address % 2] = word;
        lastWritten[address] = word;
        return said.size() - before;
    }

    boolean holds(int processor, int block) {
        return holdersOfBlock.get(block).containsKey(processor);
    }

    boolean evict(int processor, int block) {
        Copy copy = holdersOfBlock.get(block).remove(processor);
        if (!copy.dirty()) {
            return false;
        }
        say(4, processor, block);
        toMemory(copy, block);
        return true;
    }

    int flush() {
        int backs = 0;
        for (int processor = 0; processor < 4; processor++) {
            for (int line = 0; line < 2; line++) {
                int before = said.size();
                clearLine(processor, line);
                backs += said.size() - before;
            }
        }
        return backs;
    }

    int state(int processor, int block) {
        return holds(processor, block) ? holdersOfBlock.get(block).get(processor).state : 0;
    }

    int cached(int processor, int address) {
        int block = address / 2;
        return holds(processor, block) ? holdersOfBlock.get(block).get(processor).words[address % 2] : 0;
    }

    int count(int kind) {
        return (int) said.stream().filter(t -> t / 64 == kind).count();
    }

    int latest(int k) {
        return k < said.size() ? said.get(said.size() - 1 - k) : -1;
    }

    /** Every question that can be asked of the bus, 240 calls, is answered as the model answers it. */
    void compareAll(Due due, SnoopBus bus) {
        due.same("protocol", bus.protocol(), protocol);
        due.same("hits", bus.hits(), hits);
        due.same("misses", bus.misses(), misses);
        for (int k = 0; k < 8; k++) {
            due.same("latest", bus.latest(k), latest(k));
        }
        for (int kind = 0; kind < 5; kind++) {
            due.same("count", bus.count(kind), count(kind));
        }
        for (int address = 0; address < 32; address++) {
            due.same("memory", bus.memory(address), memory[address]);
            for (int processor = 0; processor < 4; processor++) {
                due.same("cached", bus.cached(processor, address), cached(processor, address));
            }
        }
        for (int block = 0; block < 16; block++) {
            for (int processor = 0; processor < 4; processor++) {
                due.same("state", bus.state(processor, block), state(processor, block));
            }
        }
    }

    private Copy access(int processor, int block, int kind) {
        if (holds(processor, block)) {
            hits++;
            return holdersOfBlock.get(block).get(processor);
        }
        misses++;
        clearLine(processor, block % 2);
        say(kind, processor, block);
        TreeMap<Integer, Copy> holders = holdersOfBlock.get(block);
        int[] words = {memory[2 * block], memory[2 * block + 1]};
        for (Copy copy : holders.values()) {
            if (copy.dirty()) {
                words = copy.words.clone();
            }
        }
        if (kind == 1) {
            holders.clear();
        }
        int state = kind == 1 ? 4 : holders.isEmpty() && protocol > 0 ? 2 : 1;
        for (Copy copy : holders.values()) {
            afterForeignRead(copy, block);
        }
        Copy mine = new Copy(words, state);
        holders.put(processor, mine);
        return mine;
    }

    private void afterForeignRead(Copy copy, int block) {
        switch (copy.state) {
            case 4, 3 -> {
                if (protocol < 2) {
                    toMemory(copy, block);
                    copy.state = 1;
                } else {
                    copy.state = 3;
                }
            }
            default -> copy.state = 1;
        }
    }

    private void clearLine(int processor, int line) {
        for (int block = line; block < 16; block += 2) {
            if (holds(processor, block)) {
                evict(processor, block);
            }
        }
    }

    private void toMemory(Copy copy, int block) {
        memory[2 * block] = copy.words[0];
        memory[2 * block + 1] = copy.words[1];
    }

    private void say(int kind, int processor, int block) {
        said.add(64 * kind + 16 * processor + block);
    }
}
