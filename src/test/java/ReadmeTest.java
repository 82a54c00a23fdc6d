import java.io.IOException;
import java.nio.file.Files;
import java.nio.file.Path;
import java.util.ArrayList;
import java.util.List;
import java.util.regex.Matcher;
import java.util.regex.Pattern;

/** The example in README.md answers, call by call, what stands behind each call there. It is run in the project's directory. */
public final class ReadmeTest {
    private static final Pattern CALL = Pattern.compile("bus\\.(\\w+)\\(([-\\d, ]*)\\); *// (true|false|-?\\d+): .*");

    public static void main(String[] args) throws IOException {
        Due due = new Due();
        SnoopBus bus = new SnoopBus();
        for (String line : example()) {
            Matcher call = CALL.matcher(line);
            if (call.matches()) {
                due.same(line, answer(bus, call.group(1), numbers(call.group(2))), call.group(3));
            } else {
                due.same("a line of the example", line.startsWith("SnoopBus bus = new SnoopBus();"), true);
            }
        }
        due.end();
    }

    private static List<String> example() throws IOException {
        List<String> lines = new ArrayList<>();
        boolean inside = false;
        for (String line : Files.readAllLines(Path.of("README.md"))) {
            if (line.startsWith("```")) {
                inside = line.equals("```java");
            } else if (inside) {
                lines.add(line);
            }
        }
        return lines;
    }

    private static int[] numbers(String text) {
        if (text.isBlank()) {
            return new int[0];
        }
        return Pattern.compile(", *").splitAsStream(text).mapToInt(Integer::parseInt).toArray();
    }

    private static String answer(SnoopBus bus, String call, int[] n) {
        return switch (call) {
            case "choose" -> String.valueOf(bus.choose(n[0]));
            case "protocol" -> String.valueOf(bus.protocol());
            case "read" -> String.valueOf(bus.read(n[0], n[1]));
            case "write" -> String.valueOf(bus.write(n[0], n[1], n[2]));
            case "evict" -> String.valueOf(bus.evict(n[0], n[1]));
            case "flush" -> String.valueOf(bus.flush());
            case "state" -> String.valueOf(bus.state(n[0], n[1]));
            case "cached" -> String.valueOf(bus.cached(n[0], n[1]));
            case "memory" -> String.valueOf(bus.memory(n[0]));
            case "count" -> String.valueOf(bus.count(n[0]));
            case "hits" -> String.valueOf(bus.hits());
            case "misses" -> String.valueOf(bus.misses());
            case "latest" -> String.valueOf(bus.latest(n[0]));
            default -> "no such call";
        };
    }
}
