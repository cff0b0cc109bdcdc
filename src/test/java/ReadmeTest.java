import java.io.IOException;
import java.lang.reflect.InvocationTargetException;
import java.lang.reflect.Method;
import java.nio.file.Files;
import java.nio.file.Path;
import java.util.Arrays;
import java.util.regex.Matcher;
import java.util.regex.Pattern;

/** The examples of README.md answer what is told behind them. */
public final class ReadmeTest {
    private static final Pattern BLOCK = Pattern.compile("```java\n(.*?)```", Pattern.DOTALL);
    private static final Pattern NEW = Pattern.compile("LanternChess chess = new LanternChess\\(\\);");
    private static final Pattern TYPE = Pattern.compile("type\\(chess, \"([^\"]*)\"\\);");
    private static final Pattern CALL = Pattern.compile("chess\\.(\\w+)\\(([0-9, ]*)\\); *// (\\S+): .*");
    private static LanternChess chess = null;

    private ReadmeTest() {
    }

    public static void main(String[] args) throws IOException, IllegalAccessException, InvocationTargetException {
        String readme = Files.readString(Path.of("README.md"));
        String own = squeezed(Files.readString(Path.of("src/test/java/ReadmeTest.java")));
        int helpers = 0;
        int calls = 0;
        Matcher block = BLOCK.matcher(readme);
        while (block.find()) {
            if (block.group(1).startsWith("static void type(")) {
                helpers++;
                Checks.due("type of README.md is that of this test", own.contains(squeezed(block.group(1))), true);
            } else {
                calls += follow(block.group(1));
            }
        }
        Checks.due("helpers of README.md", helpers, 1);
        Checks.due("that README.md tells calls", calls > 10, true);
        Checks.due("that README.md tells how to run the tests", readme.contains("\n    bash .ci/run\n"), true);
        tellsEachTest(readme);
        Checks.end("ReadmeTest");
    }

    private static String squeezed(String text) {
        return text.replaceAll("\\s+", "");
    }

    /** Runs the lines of an example; the answer is how many calls were compared. */
    private static int follow(String example) throws IllegalAccessException, InvocationTargetException {
        int calls = 0;
        for (String line : example.split("\n")) {
            Matcher typed = TYPE.matcher(line);
            Matcher call = CALL.matcher(line);
            if (NEW.matcher(line).matches()) {
                chess = new LanternChess();
            } else if (typed.matches()) {
                type(chess, typed.group(1));
            } else {
                Checks.due("the form of " + line, call.matches(), true);
                Checks.due(line, answerOf(call.group(1), call.group(2)), call.group(3));
                calls++;
            }
        }
        return calls;
    }

    private static String answerOf(String name, String arguments) throws IllegalAccessException,
            InvocationTargetException {
        Object[] numbers = Arrays.stream(arguments.split(", ")).filter(n -> !n.isEmpty()).map(Integer::valueOf)
            .toArray();
        for (Method method : LanternChess.class.getMethods()) {
            if (method.getName().equals(name) && method.getParameterCount() == numbers.length) {
                return String.valueOf(method.invoke(chess, numbers));
            }
        }
        return "no such method";
    }

    private static void tellsEachTest(String readme) throws IOException {
        try (var files = Files.newDirectoryStream(Path.of("src/test/java"), "*Test.java")) {
            for (Path file : files) {
                String name = file.getFileName().toString().replace(".java", "");
                Checks.due("that README.md tells of " + name, readme.contains("| `" + name + "` |"), true);
            }
        }
    }

    static void type(LanternChess chess, String text) {
        int[] words = new int[5];
        for (int i = 0; i < text.length(); i += 20) {
            for (int j = 0; j < 20; j++) {
                words[j / 4] = words[j / 4] << 8 | (i + j < text.length() ? text.charAt(i + j) : ' ');
            }
            chess.appendInput(words[0], words[1], words[2], words[3], words[4]);
        }
        chess.truncateInput(text.length());
    }
}
