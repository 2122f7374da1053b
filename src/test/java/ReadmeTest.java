import java.io.IOException;
import java.nio.file.Files;
import java.nio.file.Path;
import java.util.ArrayList;
import java.util.List;
import java.util.regex.Matcher;
import java.util.regex.Pattern;

/** Makes the calls of README.md's examples; an answer is due where a number and the line's end or a colon say so. */
public final class ReadmeTest {
    private static final Pattern CALL = Pattern.compile("core\\.(\\w+)\\(([^)]*)\\);\\s*// (?:(\\d+)(?::.*)?$)?.*");

    private static LabelledCore core;

    public static void main(String[] args) throws IOException {
        int answers = 0;
        for (String line : exampleLines()) {
            if (line.equals("LabelledCore core = new LabelledCore();")) {
                core = new LabelledCore();
                continue;
            }
            Matcher call = CALL.matcher(line);
            Check.holds("README's line is a call with its comment: " + line, call.matches());
            if (call.matches()) {
                long got = answer(call.group(1), numbers(call.group(2)));
                if (call.group(3) != null) {
                    answers++;
                    Check.due("README's " + line, Long.parseLong(call.group(3)), got);
                }
            }
        }
        Check.due("answers that README tells", 8, answers);
        Check.end();
    }

    private static List<String> exampleLines() throws IOException {
        List<String> lines = new ArrayList<>();
        boolean inside = false;
        for (String line : Files.readAllLines(Path.of("README.md"))) {
            if (line.startsWith("```")) {
                inside = line.equals("```java");
            } else if (inside) {
                lines.add(line);
            }
        }
        return lines;
    }

    private static int[] numbers(String list) {
        if (list.isEmpty()) {
            return new int[0];
        }
        String[] texts = list.split(", ");
        int[] numbers = new int[texts.length];
        for (int i = 0; i < texts.length; i++) {
            numbers[i] = Integer.parseInt(texts[i]);
        }
        return numbers;
    }

    private static long answer(String name, int[] n) {
        switch (name) {
            case "word":
                return core.word(n[0]);
            case "input":
                return core.input(n[0], n[1]);
            case "run":
                return core.run(n[0]);
            case "told":
                return core.told(n[0]);
            case "output":
                return core.output(n[0]);
            case "rule":
                core.rule(n[0], n[1], n[2], n[3], n[4]);
                return 0;
            case "begin":
                core.begin();
                return 0;
            default:
                Check.holds("README's call is known: " + name, false);
                return 0;
        }
    }
}
