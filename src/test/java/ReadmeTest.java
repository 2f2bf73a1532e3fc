import java.io.IOException;
import java.nio.file.Files;
import java.nio.file.Path;
import java.util.regex.Matcher;
import java.util.regex.Pattern;

/** The calls that README.md shows, each held to the answer that stands behind it. */
final class ReadmeTest extends Check {
    private static final Pattern CALL = Pattern.compile("mill\\.(\\w+)\\((.*?)\\);\\s*// (-?\\d+|true)\\b.*");

    private final ShortMill mill = new ShortMill();

    /** Numbers, shifted and joined, as in 23 << 8 | 52. */
    private static int number(String source) {
        int number = 0;
        for (String part : source.split("\\|")) {
            String[] sides = part.trim().split(" << ");
            number |= Integer.parseInt(sides[0]) << (sides.length > 1 ? Integer.parseInt(sides[1]) : 0);
        }
        return number;
    }

    private static int[] numbers(String source) {
        if (source.isEmpty()) {
            return new int[0];
        }
        String[] parts = source.split(", ");
        int[] numbers = new int[parts.length];
        for (int k = 0; k < parts.length; k++) {
            numbers[k] = number(parts[k]);
        }
        return numbers;
    }

    private int answer(String call, int[] with) {
        switch (call) {
            case "words": return mill.words(with[0], with[1]);
            case "compile": return mill.compile();
            case "start": return mill.start() ? 1 : 0;
            case "key": return mill.key(with[0]);
            case "run": return mill.run(with[0]);
            case "shown": return mill.shown(with[0]);
            case "global": return mill.global(with[0]);
            case "array": return mill.array(with[0], with[1]);
            case "about": return mill.about(with[0]);
            default: throw new IllegalArgumentException(call);
        }
    }

    private void line(String line) {
        Matcher call = CALL.matcher(line);
        if (call.matches()) {
            String want = call.group(3);
            due(line, answer(call.group(1), numbers(call.group(2))), want.equals("true") ? 1 : Integer.parseInt(want));
        } else {
            due("a call with an answer: " + line, line.startsWith("mill.") ? 0 : 1, 1);
        }
    }

    public static void main(String[] args) throws IOException {
        ReadmeTest test = new ReadmeTest();
        boolean java = false;
        for (String line : Files.readAllLines(Path.of("README.md"))) {
            if (line.startsWith("```")) {
                java = line.equals("```java");
            } else if (java) {
                test.line(line);
            }
        }
        test.due("calls were found", test.looked() > 20 ? 1 : 0, 1);
        test.end();
    }
}
