import java.util.ArrayDeque;
import java.util.ArrayList;
import java.util.Arrays;
import java.util.Comparator;
import java.util.Deque;
import java.util.HashMap;
import java.util.List;
import java.util.Map;
import java.util.NoSuchElementException;
import java.util.regex.Matcher;
import java.util.regex.Pattern;

/** The game of the document, written a second time without regard to speed: nothing is held that can be found. */
final class Model {
    static final class Ferry {
        int side;
        int[] places = new int[2];
        boolean isKing;
        int jumped;
        int moved;

        Ferry copy() {
            Ferry other = new Ferry();
            other.side = side;
            other.places = places.clone();
            other.isKing = isKing;
            other.jumped = jumped;
            other.moved = moved;
            return other;
        }
    }

    private static final String ORDER = "(?:ferry [0-9] [0-9]{1,2} [0-9]{1,2}|tug [0-9] [0-9]{1,2}"
            + "|lock [0-9] [0-9]{1,2} [0-9]|fog [0-9] [0-9]{1,2} [0-9]|move [0-9] [0-9][+-]|pass)";
    private static final Pattern TEXT = Pattern.compile(ORDER + "(?:;" + ORDER + ")*");

    // What changes can change.
    List<Ferry> ferries = new ArrayList<>();
    List<List<Integer>> tugs = List.of(new ArrayList<>(), new ArrayList<>());
    List<Map<Integer, Integer>> locks = List.of(new HashMap<>(), new HashMap<>());
    int[] fogPlaces = new int[2];
    int[] fogWidths = new int[2];
    int turn;
    int[] points = new int[2];
    int moveCount;
    int passCount;
    int jumpCount;
    int kingCount;
    int putCount;

    Deque<Model> changes = new ArrayDeque<>();
    Model snapshot;
    String input = "";
    String line = "";
    int error = -1;
    List<int[]> reasons = new ArrayList<>();

    Model copy() {
        Model other = new Model();
        other.takeFrom(this);
        return other;
    }

    void takeFrom(Model other) {
        ferries = new ArrayList<>();
        for (Ferry ferry : other.ferries) {
            ferries.add(ferry.copy());
        }
        tugs = List.of(new ArrayList<>(other.tugs.get(0)), new ArrayList<>(other.tugs.get(1)));
        locks = List.of(new HashMap<>(other.locks.get(0)), new HashMap<>(other.locks.get(1)));
        fogPlaces = other.fogPlaces.clone();
        fogWidths = other.fogWidths.clone();
        turn = other.turn;
        points = other.points.clone();
        moveCount = other.moveCount;
        passCount = other.passCount;
        jumpCount = other.jumpCount;
        kingCount = other.kingCount;
        putCount = other.putCount;
    }

    private void remember(Model before) {
        changes.addLast(before);
        if (changes.size() > 8) {
            changes.removeFirst();
        }
    }

    private RuntimeException refuse(int[]... chain) {
        reasons = new ArrayList<>(Arrays.asList(chain));
        return new UnsupportedOperationException();
    }

    private static void index(boolean isThere) {
        if (!isThere) {
            throw new IndexOutOfBoundsException();
        }
    }

    private static void argument(boolean isRight) {
        if (!isRight) {
            throw new IllegalArgumentException();
        }
    }

    private static boolean in(int number, int from, int to) {
        return from <= number && number <= to;
    }

    private Ferry find(int ferry) {
        index(in(ferry, 0, ferries.size() - 1));
        return ferries.get(ferry);
    }

    int ferry(int side, int first, int second) {
        argument(in(side, 0, 1) && in(first, 0, 11) && in(second, 0, 11));
        if (ferries.size() == 8) {
            throw refuse(new int[] {1, 8});
        }
        if (at(0, first) != -1) {
            throw refuse(new int[] {2, first});
        }
        if (at(1, second) != -1) {
            throw refuse(new int[] {2, second});
        }
        remember(copy());
        Ferry ferry = new Ferry();
        ferry.side = side;
        ferry.places = new int[] {first, second};
        ferries.add(ferry);
        putCount++;
        return ferries.size() - 1;
    }

    int tug(int river, int place) {
        index(in(river, 0, 1) && in(place, 0, 11));
        if (tugs.get(river).size() == 4) {
            throw refuse(new int[] {1, 4});
        }
        if (at(river, place) != -1) {
            throw refuse(new int[] {2, place});
        }
        remember(copy());
        tugs.get(river).add(place);
        return tugs.get(river).size();
    }

    int lock(int river, int place, int uses) {
        index(in(river, 0, 1) && in(place, 0, 11));
        argument(in(uses, 0, 3));
        int before = lockAt(river, place);
        if (before == uses) {
            throw refuse(new int[] {3, uses});
        }
        remember(copy());
        locks.get(river).put(place, uses);
        return before;
    }

    int fog(int river, int place, int width) {
        index(in(river, 0, 1) && in(place, 0, 11));
        argument(in(width, 0, 4));
        int before = fogWidths[river];
        if (before == width && fogPlaces[river] == place) {
            throw refuse(new int[] {3, width});
        }
        remember(copy());
        fogPlaces[river] = place;
        fogWidths[river] = width;
        return before;
    }

    int move(int ferry, int river, boolean isGreater) {
        find(ferry);
        index(in(river, 0, 1));
        int[] reason = reason(ferry, river, isGreater);
        if (reason != null) {
            throw refuse(new int[] {4, ferry}, reason);
        }
        remember(copy());
        return makeMove(ferry, river, isGreater);
    }

    int pass() {
        for (int ferry = 0; ferry < ferries.size(); ferry++) {
            if (!movesOf(ferry, turn).isEmpty()) {
                throw refuse(new int[] {5, ferry});
            }
        }
        remember(copy());
        passCount++;
        drift();
        turn = 1 - turn;
        return turn;
    }

    private void drift() {
        for (int river = 0; river < 2; river++) {
            if (fogWidths[river] >= 1) {
                fogPlaces[river] = fogPlaces[river] == 11 ? 0 : fogPlaces[river] + 1;
            }
        }
    }

    private int makeMove(int number, int river, boolean isGreater) {
        Ferry ferry = ferries.get(number);
        int step = isGreater ? 1 : -1;
        int from = ferry.places[river];
        int over = at(river, from + step);
        int goal = over == -1 ? from + step : from + 2 * step;
        int got = 0;
        ferry.places[river] = goal;
        ferry.moved++;
        moveCount++;
        if (over == 8) {
            tugs.get(river).remove(Integer.valueOf(from + step));
            tugs.get(river).add(from);
        } else if (over >= 0) {
            got = ferries.get(over).isKing ? 2 : 1;
            ferries.remove(over);
            ferry.jumped++;
            jumpCount++;
        }
        points[ferry.side] += got;
        if (!ferry.isKing && lockAt(river, goal) > 0) {
            ferry.isKing = true;
            kingCount++;
            locks.get(river).put(goal, lockAt(river, goal) - 1);
        }
        drift();
        boolean isAgain = false;
        if (got > 0) {
            for (int[] next : movesOf(ferries.indexOf(ferry), ferry.side)) {
                isAgain |= next[3] == 3;
            }
        }
        turn = isAgain ? ferry.side : 1 - ferry.side;
        return got;
    }

    int ferryOf(int number, int what) {
        Ferry ferry = find(number);
        argument(in(what, 0, 5));
        return new int[] {ferry.side, ferry.places[0], ferry.places[1], ferry.isKing ? 1 : 0, ferry.jumped,
            ferry.moved}[what];
    }

    int at(int river, int place) {
        index(in(river, 0, 1) && in(place, 0, 11));
        for (int ferry = 0; ferry < ferries.size(); ferry++) {
            if (ferries.get(ferry).places[river] == place) {
                return ferry;
            }
        }
        return tugs.get(river).contains(place) ? 8 : -1;
    }

    int lockAt(int river, int place) {
        index(in(river, 0, 1) && in(place, 0, 11));
        return locks.get(river).getOrDefault(place, 0);
    }

    boolean isFog(int river, int place) {
        index(in(river, 0, 1) && in(place, 0, 11));
        for (int i = 0; i < fogWidths[river]; i++) {
            if ((fogPlaces[river] + i) % 12 == place) {
                return true;
            }
        }
        return false;
    }

    /** The reason of moves with its detail, or null. */
    private int[] reason(int number, int river, boolean isGreater) {
        Ferry ferry = ferries.get(number);
        int place = ferry.places[river];
        int next = place + (isGreater ? 1 : -1);
        int beyond = place + (isGreater ? 2 : -2);
        if (ferry.side != turn) {
            return new int[] {11, turn};
        }
        if (isFog(river, place)) {
            return new int[] {12, fogWidths[river]};
        }
        if (!ferry.isKing && isGreater != (ferry.side == 0)) {
            return new int[] {13, place};
        }
        if (!in(next, 0, 11)) {
            return new int[] {14, place};
        }
        int who = at(river, next);
        if (who == -1) {
            return null;
        }
        if (who < 8 && ferries.get(who).side == ferry.side) {
            return new int[] {15, who};
        }
        return in(beyond, 0, 11) && at(river, beyond) == -1 ? null : new int[] {16, next};
    }

    int would(int number, int river, boolean isGreater) {
        Ferry ferry = find(number);
        index(in(river, 0, 1));
        if (reason(number, river, isGreater) != null) {
            return 0;
        }
        int who = at(river, ferry.places[river] + (isGreater ? 1 : -1));
        return who == -1 ? 1 : who == 8 ? 2 : 3;
    }

    int why(int ferry, int river, boolean isGreater, boolean isDetail) {
        find(ferry);
        index(in(river, 0, 1));
        int[] reason = reason(ferry, river, isGreater);
        if (reason == null) {
            throw new NoSuchElementException();
        }
        return reason[isDetail ? 1 : 0];
    }

    int to(int number, int river, boolean isGreater) {
        int would = would(number, river, isGreater);
        if (would == 0) {
            throw new NoSuchElementException();
        }
        return ferries.get(number).places[river] + (isGreater ? 1 : -1) * (would == 1 ? 1 : 2);
    }

    /** The moves of a ferry if the side had the turn: river, 1 for greater, place, and what it would do. */
    private List<int[]> movesOf(int ferry, int side) {
        Model other = copy();
        other.turn = side;
        List<int[]> all = new ArrayList<>();
        for (int river = 0; river < 2; river++) {
            for (int greater = 1; greater >= 0; greater--) {
                int would = other.would(ferry, river, greater == 1);
                if (would > 0) {
                    all.add(new int[] {river, greater, other.to(ferry, river, greater == 1), would});
                }
            }
        }
        return all;
    }

    int moves(int side) {
        argument(in(side, 0, 1));
        int count = 0;
        for (int ferry = 0; ferry < ferries.size(); ferry++) {
            count += movesOf(ferry, side).size();
        }
        return count;
    }

    int captures(int side) {
        argument(in(side, 0, 1));
        int count = 0;
        for (int ferry = 0; ferry < ferries.size(); ferry++) {
            for (int[] move : movesOf(ferry, side)) {
                count += move[3] == 3 ? 1 : 0;
            }
        }
        return count;
    }

    /** Whether a move of the other side would take the ferry is found by making each. */
    boolean isThreatened(int number) {
        Ferry ferry = find(number);
        for (int hunter = 0; hunter < ferries.size(); hunter++) {
            for (int[] move : movesOf(hunter, 1 - ferry.side)) {
                Model other = copy();
                Ferry hunted = other.ferries.get(number);
                other.turn = 1 - ferry.side;
                other.makeMove(hunter, move[0], move[1] == 1);
                if (!other.ferries.contains(hunted)) {
                    return true;
                }
            }
        }
        return false;
    }

    int gain(int ferry, int river, boolean isGreater) {
        if (would(ferry, river, isGreater) == 0) {
            throw new NoSuchElementException();
        }
        Model behind = copy();
        int got = behind.makeMove(ferry, river, isGreater);
        int most = 0;
        for (int other = 0; other < behind.ferries.size(); other++) {
            for (int[] move : behind.movesOf(other, 1 - turn)) {
                Model last = behind.copy();
                last.turn = 1 - turn;
                most = Math.max(most, last.makeMove(other, move[0], move[1] == 1));
            }
        }
        return got - most;
    }

    /** The best move, or null. */
    int[] bestMove() {
        int[] best = null;
        int most = Integer.MIN_VALUE;
        for (int ferry = 0; ferry < ferries.size(); ferry++) {
            for (int[] move : movesOf(ferry, turn)) {
                int gain = gain(ferry, move[0], move[1] == 1);
                if (gain > most) {
                    most = gain;
                    best = new int[] {ferry, move[0], move[1]};
                }
            }
        }
        return best;
    }

    int best(int what) {
        argument(in(what, 0, 2));
        int[] best = bestMove();
        if (best == null) {
            throw new NoSuchElementException();
        }
        return best[what];
    }

    int toLock(int number, int river) {
        Ferry ferry = find(number);
        index(in(river, 0, 1));
        int nearest = Integer.MAX_VALUE;
        for (int place = 0; place < 12; place++) {
            int way = place - ferry.places[river];
            boolean isThatWay = ferry.isKing || (ferry.side == 0 ? way > 0 : way < 0);
            if (lockAt(river, place) > 0 && way != 0 && isThatWay) {
                nearest = Math.min(nearest, Math.abs(way));
            }
        }
        if (nearest == Integer.MAX_VALUE) {
            throw new NoSuchElementException();
        }
        return nearest;
    }

    private int sorted(int place, Comparator<Ferry> order) {
        List<Ferry> all = new ArrayList<>(ferries);
        all.sort(order);
        if (!in(place, 0, all.size() - 1)) {
            throw new NoSuchElementException();
        }
        return ferries.indexOf(all.get(place));
    }

    int boldest(int place) {
        return sorted(place, Comparator.comparing((Ferry ferry) -> -ferry.jumped).thenComparing(ferry -> !ferry.isKing));
    }

    int farthest(int place) {
        return sorted(place, Comparator.comparing((Ferry ferry) -> ferry.side == 0
                ? -ferry.places[0] - ferry.places[1] : -(11 - ferry.places[0]) - (11 - ferry.places[1])));
    }

    private String letter(int ferry) {
        String letters = ferries.get(ferry).isKing ? "ABCDEFGH" : "abcdefgh";
        return letters.substring(ferry, ferry + 1);
    }

    int riverLine(int river) {
        index(in(river, 0, 1));
        line = "";
        for (int place = 0; place < 12; place++) {
            int who = at(river, place);
            line += who == 8 ? "*" : who >= 0 ? letter(who) : lockAt(river, place) > 0 ? "=" : ".";
        }
        return line.length();
    }

    int ferryLine(int number) {
        Ferry ferry = find(number);
        line = letter(number) + ferry.side + "@" + ferry.places[0] + "/" + ferry.places[1];
        return line.length();
    }

    char character(int at) {
        index(in(at, 0, line.length() - 1));
        return line.charAt(at);
    }

    int append(char c) {
        if (input.length() == 60) {
            throw new IllegalStateException();
        }
        input += c;
        return input.length();
    }

    int run() {
        String text = input;
        input = "";
        error = errorOf(text);
        argument(error < 0);
        String[] orders = text.split(";");
        Model before = copy();
        Deque<Model> changesBefore = new ArrayDeque<>(changes);
        for (int i = 0; i < orders.length; i++) {
            RuntimeException thrown = null;
            try {
                carryOut(orders[i]);
            } catch (UnsupportedOperationException e) {
                reasons.add(0, new int[] {6, i});
                thrown = e;
            } catch (RuntimeException e) {
                thrown = new IllegalArgumentException();
            }
            if (thrown != null) {
                takeFrom(before);
                changes = changesBefore;
                throw thrown;
            }
        }
        changes = changesBefore;
        remember(before);
        return orders.length;
    }

    /** An error is where the longest beginning that some text has ends. */
    private static int errorOf(String text) {
        if (TEXT.matcher(text).matches()) {
            return -1;
        }
        for (int length = 1; length <= text.length(); length++) {
            Matcher matcher = TEXT.matcher(text.substring(0, length));
            if (!matcher.matches() && !matcher.hitEnd()) {
                return length - 1;
            }
        }
        return text.length();
    }

    private void carryOut(String order) {
        String[] parts = order.split(" ");
        int[] numbers = new int[4];
        for (int i = 1; i < parts.length; i++) {
            numbers[i] = Integer.parseInt(parts[i].replaceAll("[+-]", ""));
        }
        switch (parts[0]) {
            case "ferry" -> ferry(numbers[1], numbers[2], numbers[3]);
            case "tug" -> tug(numbers[1], numbers[2]);
            case "lock" -> lock(numbers[1], numbers[2], numbers[3]);
            case "fog" -> fog(numbers[1], numbers[2], numbers[3]);
            case "move" -> move(numbers[1], numbers[2], order.endsWith("+"));
            default -> pass();
        }
    }

    int refusal(int depth, boolean isDetail) {
        argument(depth >= 0);
        if (depth >= reasons.size()) {
            throw new NoSuchElementException();
        }
        return reasons.get(depth)[isDetail ? 1 : 0];
    }

    int account(int what) {
        argument(in(what, 0, 13));
        int ofSide = 0;
        int kings = 0;
        for (Ferry ferry : ferries) {
            ofSide += ferry.side == 0 ? 1 : 0;
            kings += ferry.isKing ? 1 : 0;
        }
        int lockCount = 0;
        for (int spot = 0; spot < 24; spot++) {
            lockCount += lockAt(spot / 12, spot % 12) > 0 ? 1 : 0;
        }
        return new int[] {ferries.size(), ofSide, kings, tugs.get(0).size() + tugs.get(1).size(), lockCount, points[0],
            points[1], moveCount, passCount, jumpCount, kingCount, putCount, input.length(), changes.size()}[what];
    }

    double meanJumps() {
        if (ferries.isEmpty()) {
            throw new ArithmeticException();
        }
        return (double) ferries.stream().mapToInt(ferry -> ferry.jumped).sum() / (double) ferries.size();
    }

    float kingShare() {
        if (ferries.isEmpty()) {
            throw new ArithmeticException();
        }
        return (float) account(2) / (float) ferries.size();
    }

    int undo() {
        if (changes.isEmpty()) {
            throw new IllegalStateException();
        }
        takeFrom(changes.removeLast());
        return changes.size();
    }

    int save() {
        snapshot = copy();
        return ferries.size();
    }

    int restore() {
        if (snapshot == null) {
            throw new IllegalStateException();
        }
        takeFrom(snapshot);
        changes.clear();
        return ferries.size();
    }
}
