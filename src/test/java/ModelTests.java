/** Long runs of calls, the same at each time, whose answers a plain model of the document must give too. */
public final class ModelTests {
    private static final int RUNS = 7000;
    private static final int CALLS = 512;
    // No round of calls takes more than this, so that no object is called more often than the document promises.
    private static final int LONGEST_ROUND = 70;
    private static final int MOST_TOLD = 20;
    private static final int[] EDGES = {-1, 12, 2, Integer.MIN_VALUE, Integer.MAX_VALUE, 14, 8, 4, 5};

    private static final Checks checks = new Checks();
    private static long seed = 20260101L;

    public static void main(String[] args) {
        for (int run = 0; run < RUNS && checks.failed() < MOST_TOLD; run++) {
            seed = 77L * run + 5;
            oneRun(run);
        }
        checks.closeWith("ModelTests");
    }

    private static int below(int bound) {
        seed = seed * 6364136223846793005L + 1442695040888963407L;
        return (int) ((seed >>> 33) % bound);
    }

    /** Mostly a number below the bound, now and then one that is not. */
    private static int some(int bound) {
        return below(40) == 0 ? EDGES[below(EDGES.length)] : below(bound);
    }

    private static void oneRun(int run) {
        FerryDraughts x = new FerryDraughts();
        Model model = new Model();
        int firstPlays = below(60);
        int before = checks.made();
        for (int round = 0; checks.made() - before <= CALLS - LONGEST_ROUND && checks.failed() < MOST_TOLD; round++) {
            String name = "run " + run + " round " + round + " ";
            int kind = below(100);
            if (round < 12) {
                setUp(name, x, model, firstPlays);
            } else if (kind < 30) {
                play(name, x, model);
            } else if (kind < 40) {
                setUp(name, x, model, below(60));
            } else if (kind < 52) {
                type(name, x, model);
            } else if (kind < 60) {
                turnBack(name, x, model);
            } else {
                ask(name, x, model);
            }
        }
    }

    private static void setUp(String name, FerryDraughts x, Model model, int mood) {
        int a = some(2);
        int b = some(12);
        int c;
        switch (below(mood < 30 ? 5 : 8)) {
            case 0:
                c = some(4);
                checks.due(name + "lock " + a + " " + b + " " + c, Checks.answerOf(() -> model.lock(a, b, c)), () -> x.lock(a, b, c));
                break;
            case 1:
                c = some(5);
                checks.due(name + "fog " + a + " " + b + " " + c, Checks.answerOf(() -> model.fog(a, b, c)), () -> x.fog(a, b, c));
                break;
            case 2:
                checks.due(name + "tug " + a + " " + b, Checks.answerOf(() -> model.tug(a, b)), () -> x.tug(a, b));
                break;
            default:
                c = some(12);
                checks.due(name + "ferry " + a + " " + b + " " + c, Checks.answerOf(() -> model.ferry(a, b, c)), () -> x.ferry(a, b, c));
        }
    }

    private static void play(String name, FerryDraughts x, Model model) {
        int ferry = model.ferries.isEmpty() ? some(8) : some(model.ferries.size());
        int river = some(2);
        boolean isGreater = below(2) == 0;
        if (below(8) == 0) {
            checks.due(name + "pass", Checks.answerOf(model::pass), x::pass);
            return;
        }
        int[] best = below(3) == 0 ? model.bestMove() : null;
        if (best != null) {
            checks.due(name + "best move " + best[0] + best[1] + best[2],
                    Checks.answerOf(() -> model.move(best[0], best[1], best[2] == 1)),
                    () -> x.move(best[0], best[1], best[2] == 1));
            return;
        }
        checks.due(name + "move " + ferry + " " + river + " " + isGreater,
                Checks.answerOf(() -> model.move(ferry, river, isGreater)), () -> x.move(ferry, river, isGreater));
    }

    /** Types a text and runs it. */
    private static void type(String name, FerryDraughts x, Model model) {
        String text = someText();
        for (int i = 0; i < text.length(); i++) {
            char c = text.charAt(i);
            checks.due(name + "append", Checks.answerOf(() -> model.append(c)), () -> x.append(c));
        }
        if (below(15) != 0) {
            checks.due(name + "run " + text, Checks.answerOf(model::run), x::run);
            checks.due(name + "error of " + text, model.error, x::errorPosition);
        }
    }

    private static String someText() {
        StringBuilder text = new StringBuilder();
        int orders = 1 + below(4);
        for (int i = 0; i < orders; i++) {
            text.append(i == 0 ? "" : ";").append(someOrder());
        }
        if (below(4) == 0) {
            int at = below(text.length());
            String signs = "0129 ;+-fertugpaslockmv\u00e9\u0661\u0000";
            char sign = signs.charAt(below(signs.length()));
            switch (below(3)) {
                case 0:
                    text.setCharAt(at, sign);
                    break;
                case 1:
                    text.insert(at, sign);
                    break;
                default:
                    text.setLength(at);
            }
        }
        return text.toString();
    }

    private static String someOrder() {
        int place = below(30) == 0 ? below(100) : below(12);
        int other = below(30) == 0 ? below(100) : below(12);
        String padded = below(5) == 0 && place < 10 ? "0" + place : "" + place;
        int two = below(30) == 0 ? below(10) : below(2);
        switch (below(9)) {
            case 0: return "ferry " + two + " " + padded + " " + other;
            case 1: return "tug " + two + " " + padded;
            case 2: return "lock " + two + " " + padded + " " + below(5);
            case 3: return "fog " + two + " " + padded + " " + below(6);
            case 4: return "pass";
            default: return "move " + below(6) + " " + two + (below(2) == 0 ? "+" : "-");
        }
    }

    private static void turnBack(String name, FerryDraughts x, Model model) {
        switch (below(6)) {
            case 0:
                checks.due(name + "save", model.save(), x::save);
                break;
            case 1:
                checks.due(name + "restore", Checks.answerOf(model::restore), x::restore);
                break;
            default:
                checks.due(name + "undo", Checks.answerOf(model::undo), x::undo);
        }
    }

    private static void ask(String name, FerryDraughts x, Model model) {
        if (below(3) == 0) {
            askOfGame(name, x, model);
        } else if (below(2) == 0) {
            askOfMoves(name, x, model);
        } else {
            askOfRest(name, x, model);
        }
    }

    private static void askOfGame(String name, FerryDraughts x, Model model) {
        int river = some(2);
        int place = some(12);
        int ferry = some(8);
        int what = some(6);
        checks.due(name + "at", Checks.answerOf(() -> model.at(river, place)), () -> x.at(river, place));
        checks.due(name + "lockAt", Checks.answerOf(() -> model.lockAt(river, place)), () -> x.lockAt(river, place));
        checks.due(name + "isFog", Checks.answerOf(() -> model.isFog(river, place)), () -> x.isFog(river, place));
        checks.due(name + "ferryOf", Checks.answerOf(() -> model.ferryOf(ferry, what)), () -> x.ferryOf(ferry, what));
        checks.due(name + "turn", model.turn, x::turn);
        checks.due(name + "river line", Checks.answerOf(() -> model.riverLine(river)), () -> x.riverLine(river));
        checkLine(name, x, model);
        checks.due(name + "ferry line", Checks.answerOf(() -> model.ferryLine(ferry)), () -> x.ferryLine(ferry));
        checkLine(name, x, model);
    }

    private static void checkLine(String name, FerryDraughts x, Model model) {
        int index = some(13);
        checks.due(name + "character", Checks.answerOf(() -> model.character(index)), () -> x.character(index));
    }

    private static void askOfMoves(String name, FerryDraughts x, Model model) {
        int ferry = some(8);
        int river = some(2);
        int side = some(2);
        int what = some(3);
        boolean isGreater = below(2) == 0;
        boolean isOther = below(2) == 0;
        checks.due(name + "would", Checks.answerOf(() -> model.would(ferry, river, isGreater)), () -> x.would(ferry, river, isGreater));
        checks.due(name + "why", Checks.answerOf(() -> model.why(ferry, river, isGreater, isOther)), () -> x.why(ferry, river, isGreater, isOther));
        checks.due(name + "to", Checks.answerOf(() -> model.to(ferry, river, isGreater)), () -> x.to(ferry, river, isGreater));
        checks.due(name + "moves", Checks.answerOf(() -> model.moves(side)), () -> x.moves(side, isOther));
        checks.due(name + "captures", Checks.answerOf(() -> model.captures(side)), () -> x.captures(side, isOther));
        checks.due(name + "isThreatened", Checks.answerOf(() -> model.isThreatened(ferry)), () -> x.isThreatened(ferry));
        checks.due(name + "gain", Checks.answerOf(() -> model.gain(ferry, river, isGreater)), () -> x.gain(ferry, river, isGreater));
        checks.due(name + "best", Checks.answerOf(() -> model.best(what)), () -> x.best(what));
        checks.due(name + "toLock", Checks.answerOf(() -> model.toLock(ferry, river)), () -> x.toLock(ferry, river));
    }

    private static void askOfRest(String name, FerryDraughts x, Model model) {
        int place = some(8);
        int depth = some(4);
        int what = some(14);
        boolean isDetail = below(2) == 0;
        checks.due(name + "boldest", Checks.answerOf(() -> model.boldest(place)), () -> x.boldest(place));
        checks.due(name + "farthest", Checks.answerOf(() -> model.farthest(place)), () -> x.farthest(place));
        checks.due(name + "refusal", Checks.answerOf(() -> model.refusal(depth, isDetail)), () -> x.refusal(depth, isDetail));
        checks.due(name + "account " + what, Checks.answerOf(() -> model.account(what)), () -> x.account(what));
        checks.due(name + "isWell", true, x::isWell);
        checks.due(name + "meanJumps", Checks.answerOf(model::meanJumps), x::meanJumps);
        checks.due(name + "kingShare", Checks.answerOf(model::kingShare), x::kingShare);
        checks.due(name + "errorPosition", model.error, x::errorPosition);
    }
}
