import java.io.IOException;
import java.nio.charset.StandardCharsets;
import java.nio.file.Files;
import java.nio.file.Path;
import java.util.LinkedHashSet;
import java.util.Map;
import java.util.NoSuchElementException;
import java.util.Set;

/**
 * Tests of one sentence of the document each, written as rows "call -> answer", all on one new object. A sentence that
 * does not stand in the document is a failure, and so is a call that throws and leaves anything changed by that.
 */
final class Sentences {
    private static final Map<String, Class<?>> EXCEPTIONS = Map.of(
            "INDEX", IndexOutOfBoundsException.class,
            "ARGUMENT", IllegalArgumentException.class,
            "REFUSED", UnsupportedOperationException.class,
            "NONE", NoSuchElementException.class,
            "STATE", IllegalStateException.class,
            "ARITHMETIC", ArithmeticException.class);
    private static final String ARROW = " -> ";

    private final Checks checks = new Checks();
    private final String document;
    private final Set<String> quoted = new LinkedHashSet<>();
    private final Caller caller = new Caller();

    Sentences(String path) throws IOException {
        document = Files.readString(Path.of(path), StandardCharsets.UTF_8).replaceAll("\\s+", " ");
    }

    /** Tests a sentence that stands in a part of the document, below a heading that begins so. */
    void test(String part, String sentence, String... rows) {
        String name = part + ", \"" + sentence + "\"";
        checks.due(name + " stands in the document", true, () -> partOf(part).contains(sentence));
        quoted.add(part + "|" + sentence);
        FerryDraughts x = new FerryDraughts();
        for (int i = 0; i < rows.length; i++) {
            row(name, x, rows, i);
        }
    }

    void due(String what, Object due, Checks.Call call) {
        checks.due(what, due, call);
    }

    /** Fails for each sentence of the promises that begins so and has no test. */
    void needAllThatBegin(String beginning) {
        for (int promise = 1; promise <= 37; promise++) {
            String part = "Promise " + promise;
            for (String line : partOf(part).split("(?=Throws `|Returns |- `)")) {
                if (line.startsWith(beginning)) {
                    String sentence = line.strip();
                    checks.due(part + ", \"" + sentence + "\" has a test", true,
                            () -> quoted.stream().anyMatch(each -> each.startsWith(part + "|")
                                    && sentence.contains(each.substring(part.length() + 1))));
                }
            }
        }
    }

    void closeWith(String name) {
        checks.closeWith(name);
    }

    private String partOf(String heading) {
        for (String part : document.split("(?=## )")) {
            if (part.startsWith("## " + heading + ":") || part.startsWith("## " + heading + " ")) {
                return part;
            }
        }
        return "";
    }

    private void row(String name, FerryDraughts x, String[] rows, int index) {
        String call = callOf(rows[index]);
        String due = dueOf(rows[index]);
        String what = name + ", row " + index + ", " + call;
        Object answer = answerOf(x, call);
        if (due == null) {
            checks.due(what + " answers", false, () -> answer instanceof Class<?>);
        } else if (EXCEPTIONS.containsKey(due)) {
            checks.due(what, EXCEPTIONS.get(due), () -> answer);
            checks.due(what + " changes nothing", lookBehind(rows, index, due, call),
                    () -> lookBehind(rows, index + 1, due, call));
        } else {
            checks.due(what, due, () -> String.valueOf(answer));
        }
    }

    private static String callOf(String row) {
        int arrow = row.indexOf(ARROW);
        return arrow < 0 ? row : row.substring(0, arrow);
    }

    private static String dueOf(String row) {
        int arrow = row.indexOf(ARROW);
        return arrow < 0 ? null : row.substring(arrow + ARROW.length());
    }

    /** What a new object tells behind the first rows, but for what a call that throws so may change. */
    private String lookBehind(String[] rows, int count, String due, String call) {
        FerryDraughts x = new FerryDraughts();
        for (int i = 0; i < count; i++) {
            answerOf(x, callOf(rows[i]));
        }
        boolean isRun = call.equals("run") || call.startsWith("text");
        StringBuilder all = new StringBuilder(Views.state(x));
        all.append(" line ").append(Views.line(x)).append(" changes ").append(x.account(13));
        if (!due.equals("REFUSED")) {
            all.append(" reasons ").append(Views.reasons(x));
        }
        if (!isRun) {
            all.append(" input ").append(x.account(12)).append(" error ").append(x.errorPosition());
        }
        return all.toString();
    }

    private Object answerOf(FerryDraughts x, String call) {
        return Checks.answerOf(() -> answer(x, call));
    }

    private Object answer(FerryDraughts x, String call) {
        int blank = call.indexOf(' ');
        String word = blank < 0 ? call : call.substring(0, blank);
        String rest = blank < 0 ? "" : call.substring(blank + 1);
        switch (word) {
            case "river": return Views.river(x, Integer.parseInt(rest));
            case "ferryText": return Views.ferry(x, Integer.parseInt(rest));
            case "line": return Views.line(x);
            case "locks": return Views.locks(x, Integer.parseInt(rest));
            case "fogs": return Views.fogs(x, Integer.parseInt(rest));
            case "reasons": return Views.reasons(x);
            case "accounts": return Views.accounts(x);
            case "both": return Views.bothWays(x, Integer.parseInt(rest));
            case "bests": return x.best(0) + " " + x.best(1) + " " + x.best(2);
            case "type": return Views.type(x, rest);
            case "text": Views.type(x, rest); return x.run();
            case "times": return times(x, rest);
            case "reason": return answer(x, "why " + rest + " false") + ":" + answer(x, "why " + rest + " true");
            default: return caller.answer(x, word, rest);
        }
    }

    private Object times(FerryDraughts x, String rest) {
        int blank = rest.indexOf(' ');
        Object last = null;
        for (int i = 0; i < Integer.parseInt(rest.substring(0, blank)); i++) {
            last = answer(x, rest.substring(blank + 1));
        }
        return last;
    }
}
