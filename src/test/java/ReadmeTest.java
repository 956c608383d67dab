import java.io.IOException;
import java.nio.file.Files;
import java.nio.file.Path;
import java.util.Arrays;
import java.util.List;
import java.util.Map;
import java.util.regex.Matcher;
import java.util.regex.Pattern;

/** Reads the example of README.md, makes its calls, and holds the answers against what stands behind them. */
public final class ReadmeTest {
    private static final Path README = Path.of("README.md");
    private static final String MAKE = "WarpMill mill = new WarpMill();";
    private static final Pattern CALL = Pattern.compile("mill\\.(\\w+)\\((.*)\\); *// ([^:]+)(:.*)?");
    private static final Map<String, Integer> ANSWERS = Map.of("true", 1, "false", 0,
        "throws NoSuchElementException", Check.NO_SUCH,
        "throws IllegalArgumentException", Check.WRONG_ARGUMENT,
        "throws IllegalStateException", Check.WRONG_STATE);

    public static void main(String[] args) throws IOException {
        String text = Files.readString(README);
        List<String> example = text.substring(text.indexOf("```java\n") + 8).split("```")[0].lines().toList();
        Check.yes("the example makes an object", example.get(0).equals(MAKE));
        Check.yes("the example has calls", example.size() > 5);
        Mill mill = new Mill();
        for (String line : example.subList(1, example.size())) {
            Matcher m = CALL.matcher(line);
            Check.yes("a call with its answer: " + line, m.matches());
            if (m.matches()) {
                Check.due(line, call(mill, m.group(1), numbers(m.group(2))), answer(m.group(3).trim()));
            }
        }
        Check.yes("the command that runs all tests", text.contains("\n    .ci/run\n"));
        Check.end();
    }

    private static int answer(String told) {
        return ANSWERS.containsKey(told) ? ANSWERS.get(told) : Integer.parseInt(told);
    }

    private static long[] numbers(String arguments) {
        return Arrays.stream(arguments.split(",")).filter(a -> !a.isBlank()).mapToLong(ReadmeTest::number).toArray();
    }

    /** Parts like 51L or 1L << 12, with | between them. */
    private static long number(String argument) {
        long all = 0;
        for (String part : argument.split("\\|")) {
            String[] shifted = part.replace("L", "").trim().split(" << ");
            all |= Long.parseLong(shifted[0]) << (shifted.length > 1 ? Integer.parseInt(shifted[1]) : 0);
        }
        return all;
    }

    private static int call(Mill mill, String name, long... given) {
        int[] k = Arrays.stream(given).mapToInt(v -> (int) v).toArray();
        return switch (name) {
            case "word" -> mill.word(k[0], given[1]);
            case "sizes" -> mill.sizes(k[0], k[1], k[2], k[3], k[4], k[5]);
            case "set" -> mill.set(k[0], k[1]);
            case "launch" -> mill.launch(k[0], k[1]);
            case "run" -> mill.run(k[0]);
            case "stop" -> mill.stop();
            case "global" -> mill.global(k[0]);
            case "state" -> mill.state(k[0]);
            case "unit" -> mill.unit(k[0], k[1]);
            case "cached" -> mill.cached(k[0], k[1]);
            case "slot" -> mill.slot(k[0], k[1], k[2]);
            case "lane" -> mill.lane(k[0], k[1], k[2], k[3]);
            case "shared" -> mill.shared(k[0], k[1]);
            default -> throw new IllegalArgumentException(name);
        };
    }
}
