import java.io.IOException;
import java.nio.file.Files;
import java.nio.file.Path;
import java.util.ArrayDeque;
import java.util.Deque;
import java.util.function.IntSupplier;
import java.util.regex.Pattern;

/** The example of README.md: its lines, in their order, answer what is written behind them. */
public final class ReadmeTests extends Checks {
    private static final Deque<String> lines = new ArrayDeque<>();

    public static void main(String[] args) throws IOException {
        readExample();
        sentence("README.md");
        TextAligner x = new TextAligner();
        dueLine("TextAligner x = new TextAligner();", "");
        dueAnswer("x.feed(0, 'a' | 'b' << 8 | 'c' << 16, 0, 0, 0);", 3,
                () -> x.feed(0, 'a' | 'b' << 8 | 'c' << 16, 0, 0, 0));
        dueAnswer("x.feed(1, 'x' | 'a' << 8 | 'c' << 16, 0, 0, 0);", 3,
                () -> x.feed(1, 'x' | 'a' << 8 | 'c' << 16, 0, 0, 0));
        dueAnswer("x.search(2, 1);", 1, () -> x.search(2, 1));
        dueAnswer("x.least();", 1, () -> x.least());
        dueAnswer("x.found(0, 0);", 3, () -> x.found(0, 0));
        dueAnswer("x.found(0, 1);", 1, () -> x.found(0, 1));
        dueAnswer("x.found(0, 2);", 1, () -> x.found(0, 2));
        dueAnswer("x.found(0, 3);", 3, () -> x.found(0, 3));
        dueAnswer("x.step(0, 0);", 0, () -> x.step(0, 0));
        dueAnswer("x.step(0, 1);", 2, () -> x.step(0, 1));
        dueAnswer("x.step(0, 2);", 0, () -> x.step(0, 2));
        dueLine("x.gaps(3, 1);", "a gap of n signs costs 3 + n");
        x.gaps(3, 1);
        dueAnswer("x.score('a' % 8, 'a' % 8, 10);", 1, () -> x.score('a' % 8, 'a' % 8, 10));
        dueAnswer("x.fit(0);", 3, () -> x.fit(0));
        dueAnswer("x.fit(1);", 10, () -> x.fit(1));
        dueAnswer("x.count(3);", 1, () -> x.count(3));
        dueAnswer("x.count(4);", 2, () -> x.count(4));
        dueAnswer("x.clear(0);", 3, () -> x.clear(0));
        due("no line is left", 0, () -> lines.size());
        finish("the example of README.md holds");
    }

    private static void readExample() throws IOException {
        boolean inside = false;
        for (String line : Files.readAllLines(Path.of("README.md"))) {
            if (line.startsWith("```")) {
                inside = line.equals("```java");
            } else if (inside && !line.isBlank()) {
                lines.add(line);
            }
        }
    }

    private static void dueAnswer(String code, int answer, IntSupplier call) {
        dueLine(code, String.valueOf(answer));
        due(code, answer, call);
    }

    /** What is said behind the code begins with these words, and they do not end inside one. */
    private static void dueLine(String code, String said) {
        String line = lines.isEmpty() ? "" : lines.remove();
        String[] parts = line.split("//", 2);
        String remark = parts.length == 2 ? parts[1].strip() : "";
        boolean says = remark.matches(Pattern.quote(said) + "(\\W.*)?");
        due("the line \"" + line + "\" is " + code + " // " + said, 1,
                () -> parts[0].strip().equals(code) && says ? 1 : 0);
    }
}
