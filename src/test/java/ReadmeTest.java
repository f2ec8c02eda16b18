import java.io.IOException;
import java.nio.file.Files;
import java.nio.file.Path;
import java.util.regex.Matcher;
import java.util.regex.Pattern;

/** The calls of README.md's example have the answers that stand behind them there. */
public final class ReadmeTest {
    private static final Pattern TEXT = Pattern.compile("String text = \"([^\"]*)\";");
    private static final Pattern CALL = Pattern.compile(
        "cells\\.(\\w+)\\((-?\\d+)(?:, (-?\\d+))?\\);\\s*// (-?\\d+|true|false|throws \\w+):.*");
    private static final int CALLS = 10;

    public static void main(String[] args) throws IOException {
        String readme = Files.readString(Path.of("README.md"));
        int from = readme.indexOf("```java");
        String example = readme.substring(from, readme.indexOf("```", from + 3));
        Matcher text = TEXT.matcher(example);
        Due.is("the example has a text", true, text.find());
        LinearCells x = new LinearCells();
        Due.draft(x, text.group(1));
        int calls = 0;
        for (String line : example.split("\n")) {
            Matcher call = CALL.matcher(line);
            if (call.matches()) {
                int last = call.group(3) == null ? 0 : Integer.parseInt(call.group(3));
                int got = answer(x, call.group(1), Integer.parseInt(call.group(2)), last);
                Due.is("README.md: " + line, numberOf(call.group(4)), got);
                calls++;
            }
        }
        Due.is("calls in the example", CALLS, calls);
        Due.end();
    }

    private static int answer(LinearCells x, String name, int first, int second) {
        switch (name) {
            case "define":
                return Due.defined(x, first);
            case "sound":
                return x.sound(first) ? 1 : 0;
            case "typed":
                return Due.typed(x, first);
            case "run":
                return Due.run(x, first, second);
            case "value":
                return Due.value(x, first);
            case "heap":
                return Due.heap(x, first);
            case "cell":
                return Due.cell(x, first);
            default:
                throw new IllegalArgumentException(name);
        }
    }

    private static int numberOf(String answer) {
        switch (answer) {
            case "true":
                return 1;
            case "false":
                return 0;
            case "throws IndexOutOfBoundsException":
                return Due.OUT_OF_BOUNDS;
            default:
                return Integer.parseInt(answer);
        }
    }
}
