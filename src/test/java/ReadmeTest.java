import java.io.IOException;
import java.nio.file.Files;
import java.nio.file.Path;
import java.util.regex.Matcher;
import java.util.regex.Pattern;

/** The examples of README.md: its lines are read, done, and must answer what stands behind them. */
public final class ReadmeTest {
    private static final Check CHECK = new Check("ReadmeTest");

    /** A call, with a name for its answer or without one, and what is said of it. */
    private static final Pattern CALL =
        Pattern.compile("(?:int \\w+ = )?x\\.(\\w+)\\(([^)]*)\\); *(?://(.*))?");
    private static final Pattern ANSWER = Pattern.compile(" (-?\\d+)(:.*)?");

    public static void main(String[] args) throws IOException {
        StateFrames x = new StateFrames();
        boolean inExample = false;
        int calls = 0;
        for (String line : Files.readAllLines(Path.of("README.md"))) {
            if (line.startsWith("```")) {
                inExample = line.equals("```java");
            } else if (inExample && !line.startsWith("StateFrames x = ")) {
                Matcher call = CALL.matcher(line);
                CHECK.due("a call: " + line, call.matches(), true);
                ask(x, line, call);
                calls++;
            }
        }
        CHECK.due("calls of the examples", calls, 16);
        CHECK.end();
    }

    private static void ask(StateFrames x, String line, Matcher call) {
        String[] given = call.group(2).isEmpty() ? new String[0] : call.group(2).split(", ");
        long answer = answer(x, call.group(1), given);
        if (line.startsWith("int ")) {
            Matcher told = ANSWER.matcher(call.group(3));
            CHECK.due("an answer is told: " + line, told.matches(), true);
            CHECK.due(line, answer, Long.parseLong(told.group(1)));
        } else {
            CHECK.due(line, answer, 1);
        }
    }

    /** A call without an answer counts as true. */
    private static long answer(StateFrames x, String name, String[] given) {
        switch (name) {
            case "write":
                return x.write(Long.decode(given[0].replace("L", "")), Integer.parseInt(given[1])) ? 1 : 0;
            case "read":
                return x.read(Integer.parseInt(given[0]));
            case "byteAt":
                return x.byteAt(Integer.parseInt(given[0]));
            case "about":
                return x.about(Integer.parseInt(given[0]));
            case "size":
                return x.size();
            case "learn":
                return x.learn();
            case "clear":
                x.clear();
                return 1;
            case "forget":
                x.forget();
                return 1;
            default:
                return -1;
        }
    }
}
