import java.io.IOException;
import java.nio.charset.StandardCharsets;
import java.nio.file.Files;
import java.nio.file.Path;
import java.util.regex.Matcher;
import java.util.regex.Pattern;

/** The examples of README.md: the rows "game.call(..); // answer" of each block of Java, on one new object. */
public final class ReadmeTests {
    private static final Pattern BLOCK = Pattern.compile("```java\n(.*?)```", Pattern.DOTALL);
    private static final Pattern ROW = Pattern.compile("game\\.(\\w+)\\((.*?)\\); +// ([^:, ]+)(?:[:,] .*)?");
    private static final String NEW = "FerryDraughts game = new FerryDraughts();";
    private static final Pattern TEXT = Pattern.compile("`(ferry [^`]*;[^`]*)`");

    private static final Checks checks = new Checks();
    private static final Caller caller = new Caller();

    public static void main(String[] args) throws IOException {
        String readme = Files.readString(Path.of(args[1], "README.md"), StandardCharsets.UTF_8);
        Matcher block = BLOCK.matcher(readme);
        while (block.find()) {
            example(block.group(1));
        }
        textOf(readme);
        allCallsAreTold(readme);
        checks.closeWith("ReadmeTests");
    }

    private static void example(String block) {
        FerryDraughts x = new FerryDraughts();
        for (String line : block.split("\n")) {
            Matcher row = ROW.matcher(line);
            boolean isRow = row.matches();
            checks.due("README.md, \"" + line + "\" can be read", true, () -> isRow || line.equals(NEW));
            if (isRow) {
                checks.due("README.md, " + line, row.group(3), () -> answer(x, row.group(1), row.group(2)));
            }
        }
    }

    private static String answer(FerryDraughts x, String word, String arguments) {
        Object answer = Checks.answerOf(() -> caller.answer(x, word, arguments.replace(",", "")));
        return answer instanceof Class<?> exception ? exception.getSimpleName() : String.valueOf(answer);
    }

    private static void textOf(String readme) {
        Matcher text = TEXT.matcher(readme);
        checks.due("README.md has a text", true, text::find);
        FerryDraughts x = new FerryDraughts();
        checks.due("the text of README.md", 4, () -> Views.run(x, text.group(1)));
        checks.due("the text of README.md", "A0@5/0", () -> Views.ferry(x, 0));
    }

    private static void allCallsAreTold(String readme) {
        for (String call : caller.calls()) {
            checks.due("README.md tells of " + call, true, () -> readme.contains("`" + call + "`"));
        }
    }
}
