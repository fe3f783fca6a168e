import java.io.IOException;

/** For each promise of the document its boundaries: what is too small, too large, empty, full or refused. */
public final class CallsTests {
    private static final String NO_RIVER_OR_PLACE = "Throws `IndexOutOfBoundsException` if there is no such river or place";
    private static final String NO_FERRY_OR_RIVER = "Throws `IndexOutOfBoundsException` if there is no such ferry or river";
    private static final String NO_FERRY = "Throws `IndexOutOfBoundsException` if there is no such ferry";
    private static final String NO_SIDE = "Throws `IllegalArgumentException` if there is no such side";
    private static final String REASON_1_OR_2 = "Throws `UnsupportedOperationException` if it is refused for reason 1 or 2; the reason is kept for refusal";
    private static final String CANNOT = "Throws `NoSuchElementException` if it cannot move so";
    private static final String HOW_MANY = "Returns how many.";
    private static final String NUMBER = "Returns the number.";

    private static Sentences sentences;

    public static void main(String[] args) throws IOException {
        sentences = new Sentences(args[0]);
        newObject();
        ferry();
        tug();
        lock();
        fog();
        move();
        pass();
        ferryOf();
        at();
        lockAt();
        isFog();
        turn();
        would();
        why();
        to();
        moves();
        captures();
        isThreatened();
        gain();
        best();
        bestOfSeveral();
        toLock();
        boldest();
        farthest();
        riverLine();
        ferryLine();
        character();
        append();
        run();
        errorPosition();
        refusal();
        account();
        isWell();
        meanJumps();
        kingShare();
        undo();
        save();
        restore();
        sentences.needAllThatBegin("Throws `");
        sentences.needAllThatBegin("Returns ");
        sentences.closeWith("CallsTests");
    }

    private static void test(int promise, String sentence, String... rows) {
        sentences.test("Promise " + promise, sentence, rows);
    }

    private static void newObject() {
        String sentence = "Creates two rivers without ferries, tugs, locks and fog, on which the side 0 has the turn.";
        test(1, sentence, "accounts -> 0 0 0 0 0 0 0 0 0 0 0 0 0 0", "turn -> 0", "line -> ", "reasons -> ",
                "errorPosition -> -1", "river 0 -> ............", "river 1 -> ............");
        test(1, sentence, "fogs 0 -> ............", "fogs 1 -> ............", "locks 0 -> 000000000000",
                "locks 1 -> 000000000000", "at 0 0 -> -1", "at 1 11 -> -1", "both 0 -> 0/0 0/0", "both 1 -> 0/0 0/0",
                "isWell -> true");
        test(1, sentence, "ferry 0 3 3", "tug 1 1", "lock 0 0 1", "fog 0 0 1", "pass -> REFUSED");
        test(1, sentence, "accounts -> 0 0 0 0 0 0 0 0 0 0 0 0 0 0", "turn -> 0", "undo -> STATE", "restore -> STATE");
    }

    private static void ferry() {
        test(2, "Returns its number.", "ferry 1 0 0 -> 0", "ferry 1 11 11 -> 1", "ferry 0 5 6 -> 2", "undo",
                "ferry 0 0 6 -> REFUSED", "ferry 0 1 6 -> 2", "ferry 1 2 7 -> 3", "ferry 0 3 8 -> 4",
                "ferry 0 4 9 -> 5", "ferry 0 5 10 -> 6", "ferry 1 6 1 -> 7", "river 0 -> acdefgh....b",
                "river 1 -> ah....cdefgb");
        test(2, "Throws `IllegalArgumentException` if there is no such side or place", "ferry -1 0 0 -> ARGUMENT",
                "ferry 2 0 0 -> ARGUMENT", "ferry 0 -1 0 -> ARGUMENT", "ferry 0 12 0 -> ARGUMENT",
                "ferry 0 0 -1 -> ARGUMENT", "ferry 0 0 12 -> ARGUMENT", "ferry 1 12 12 -> ARGUMENT",
                "ferry MIN MIN MIN -> ARGUMENT", "ferry 0 MAX 0 -> ARGUMENT", "ferry 0 0 MAX -> ARGUMENT",
                "ferry 0 MIN 0 -> ARGUMENT", "reasons -> ", "account 11 -> 0", "account 13 -> 0", "ferry 0 11 0 -> 0",
                "ferry 1 0 11 -> 1");
        test(2, REASON_1_OR_2, "ferry 0 0 11 -> 0", "ferry 0 0 0 -> REFUSED", "reasons -> 2:0",
                "ferry 0 1 11 -> REFUSED", "reasons -> 2:11", "ferry 1 0 11 -> REFUSED", "reasons -> 2:0", "tug 0 11",
                "tug 1 0", "ferry 1 11 0 -> REFUSED", "reasons -> 2:11", "ferry 1 10 0 -> REFUSED", "reasons -> 2:0",
                "ferry 1 10 10 -> 1", "account 11 -> 2");
        test(2, REASON_1_OR_2, "text ferry 0 0 0;ferry 0 1 1;ferry 0 2 2;ferry 0 3 3 -> 4",
                "text ferry 0 4 4;ferry 0 5 5;ferry 0 6 6 -> 3", "account 0 -> 7", "ferry 0 6 7 -> REFUSED",
                "reasons -> 2:6", "ferry 0 7 7 -> 7", "ferry 0 7 7 -> REFUSED", "reasons -> 1:8",
                "ferry 0 8 8 -> REFUSED", "ferry 0 8 12 -> ARGUMENT", "account 11 -> 8", "undo -> 2",
                "ferry 0 8 8 -> 7");
    }

    private static void tug() {
        test(3, "Returns how many tugs the river has then.", "tug 1 11 -> 1", "tug 1 0 -> 2", "tug 0 0 -> 1",
                "tug 1 5 -> 3", "tug 1 6 -> 4", "tug 0 11 -> 2", "undo", "undo", "tug 1 7 -> 4", "account 3 -> 5");
        test(3, NO_RIVER_OR_PLACE, "tug -1 0 -> INDEX", "tug 2 0 -> INDEX", "tug 0 -1 -> INDEX", "tug 0 12 -> INDEX",
                "tug 1 -1 -> INDEX", "tug 1 12 -> INDEX", "tug MIN 0 -> INDEX", "tug MAX 0 -> INDEX",
                "tug 0 MIN -> INDEX", "tug 0 MAX -> INDEX", "reasons -> ", "account 13 -> 0", "tug 0 11 -> 1",
                "tug 1 0 -> 1");
        test(3, REASON_1_OR_2, "ferry 0 3 4", "tug 0 3 -> REFUSED", "reasons -> 2:3", "tug 1 4 -> REFUSED",
                "reasons -> 2:4", "tug 0 4 -> 1", "tug 0 4 -> REFUSED", "reasons -> 2:4", "tug 1 3 -> 1",
                "tug 0 0 -> 2", "tug 0 1 -> 3", "tug 0 1 -> REFUSED", "reasons -> 2:1", "tug 0 11 -> 4",
                "tug 0 11 -> REFUSED", "reasons -> 1:4", "tug 0 10 -> REFUSED", "reasons -> 1:4", "tug 0 12 -> INDEX",
                "account 3 -> 5");
    }

    private static void lock() {
        test(4, "Returns the uses before, 0 for no lock.", "lock 0 11 3 -> 0", "lock 0 11 1 -> 3", "lock 0 11 0 -> 1",
                "lock 0 11 2 -> 0", "lock 1 0 1 -> 0", "lock 1 0 3 -> 1", "ferry 0 10 5", "move 0 0 true",
                "lock 0 11 3 -> 1", "undo -> 7", "lockAt 0 11 -> 1");
        test(4, "`uses`: the uses, 0 for no lock", "lock 0 4 1", "account 4 -> 1", "river 0 -> ....=.......",
                "lock 0 4 0 -> 1", "account 4 -> 0", "river 0 -> ............", "ferry 0 3 3", "toLock 0 0 -> NONE",
                "move 0 0 true", "account 10 -> 0");
        test(4, NO_RIVER_OR_PLACE, "lock -1 0 1 -> INDEX", "lock 2 0 1 -> INDEX", "lock 0 -1 1 -> INDEX",
                "lock 0 12 1 -> INDEX", "lock 1 -1 0 -> INDEX", "lock 1 12 0 -> INDEX", "lock 2 0 4 -> INDEX",
                "lock 0 12 -1 -> INDEX", "lock MIN 0 1 -> INDEX", "lock 0 MAX 1 -> INDEX", "reasons -> ",
                "lock 0 11 1 -> 0", "lock 1 0 1 -> 0");
        test(4, "Throws `IllegalArgumentException` if the uses are not from 0 to 3", "lock 0 0 4 -> ARGUMENT",
                "lock 0 0 -1 -> ARGUMENT", "lock 0 0 MIN -> ARGUMENT", "lock 0 0 MAX -> ARGUMENT", "reasons -> ",
                "lock 0 0 3 -> 0", "lock 0 0 0 -> 3", "lock 0 0 1 -> 0");
        test(4, "Throws `UnsupportedOperationException` if it is refused for reason 3; the reason is kept for refusal",
                "lock 1 11 0 -> REFUSED", "reasons -> 3:0", "lock 1 11 1", "lock 1 11 1 -> REFUSED", "reasons -> 3:1",
                "lock 0 11 1 -> 0", "lock 1 11 2", "lock 1 11 2 -> REFUSED", "reasons -> 3:2", "lock 1 11 3",
                "lock 1 11 3 -> REFUSED", "reasons -> 3:3", "account 13 -> 4", "lock 1 11 0 -> 3",
                "lock 1 11 0 -> REFUSED", "reasons -> 3:0");
    }

    private static void fog() {
        test(5, "Returns the width before.", "fog 0 11 4 -> 0", "fog 1 0 1 -> 0", "fog 0 11 1 -> 4", "fog 0 0 1 -> 1",
                "fog 0 0 0 -> 1", "fog 0 5 0 -> 0", "fog 0 5 2 -> 0", "fog 1 0 0 -> 1");
        test(5, NO_RIVER_OR_PLACE, "fog -1 0 1 -> INDEX", "fog 2 0 1 -> INDEX", "fog 0 -1 1 -> INDEX",
                "fog 0 12 1 -> INDEX", "fog 1 12 0 -> INDEX", "fog 1 -1 0 -> INDEX", "fog 0 12 5 -> INDEX",
                "fog 2 0 -1 -> INDEX", "fog MAX 0 1 -> INDEX", "fog 0 MIN 1 -> INDEX", "reasons -> ", "fog 0 11 1 -> 0",
                "fog 1 0 1 -> 0");
        test(5, "Throws `IllegalArgumentException` if the width is not from 0 to 4", "fog 0 0 5 -> ARGUMENT",
                "fog 0 0 -1 -> ARGUMENT", "fog 1 11 MIN -> ARGUMENT", "fog 1 11 MAX -> ARGUMENT", "reasons -> ",
                "fog 0 0 4 -> 0", "fog 0 0 0 -> 4");
        test(5,
                "Throws `UnsupportedOperationException` if it is refused for reason 3, if both are so already; the reason is kept for refusal",
                "fog 0 0 0 -> REFUSED", "reasons -> 3:0", "fog 1 0 0 -> REFUSED", "fog 0 11 4", "fog 0 11 4 -> REFUSED",
                "reasons -> 3:4", "fog 0 11 3 -> 4", "fog 0 10 3 -> 3", "fog 0 10 3 -> REFUSED", "reasons -> 3:3",
                "fog 1 10 3 -> 0", "account 13 -> 4", "pass", "fog 0 10 3 -> 3", "fog 1 11 3 -> REFUSED");
    }

    private static void move() {
        test(6, "Returns the points that its side gets.", "ferry 0 3 0", "ferry 1 4 9", "move 0 1 true -> 0",
                "move 1 0 false -> 1", "account 5 -> 0", "account 6 -> 1");
        test(6, "Returns the points that its side gets.", "lock 1 8 1", "pass", "ferry 1 4 9", "move 0 1 false -> 0",
                "ferry 0 3 0", "move 1 0 true -> 2", "account 5 -> 2", "ferryOf 0 4 -> 1", "account 9 -> 1");
        test(6, "Returns the points that its side gets.", "ferry 0 3 0", "tug 0 4", "move 0 0 true -> 0",
                "account 5 -> 0");
        test(6, NO_FERRY_OR_RIVER, "move 0 0 true -> INDEX", "move -1 0 true -> INDEX", "ferry 0 3 3",
                "move 1 0 true -> INDEX", "move -1 1 false -> INDEX", "move 0 2 true -> INDEX",
                "move 0 -1 true -> INDEX", "move MIN 0 true -> INDEX", "move MAX MAX false -> INDEX",
                "move 0 MIN false -> INDEX", "reasons -> ", "account 7 -> 0", "move 0 1 true -> 0", "account 7 -> 1");
        test(6, NO_FERRY_OR_RIVER, "ferry 0 3 0", "ferry 1 4 9", "ferry 0 8 5", "move 2 0 true -> 0",
                "move 1 0 false -> 1", "move 2 0 true -> INDEX", "move 0 0 true -> REFUSED", "reasons -> 4:0 11:0",
                "move 1 0 true -> 0");
        String refused = "Throws `UnsupportedOperationException` if it is refused for reason 4; the reason is kept for refusal";
        test(6, refused, "ferry 0 3 0", "ferry 1 8 8", "move 1 0 false -> REFUSED", "reasons -> 4:1 11:0",
                "move 0 0 false -> REFUSED", "reasons -> 4:0 13:3", "fog 1 11 2", "move 0 1 true -> REFUSED",
                "reasons -> 4:0 12:2", "account 7 -> 0", "move 0 0 true -> 0", "fogs 1 -> ff..........", "turn -> 1",
                "move 0 1 true -> REFUSED", "reasons -> 4:0 11:1");
        test(6, refused, "ferry 0 11 10", "ferry 0 0 11", "ferry 1 3 0", "ferry 0 2 5", "tug 0 4",
                "move 0 0 true -> REFUSED", "reasons -> 4:0 14:11", "move 0 1 true -> REFUSED", "reasons -> 4:0 15:1",
                "move 3 0 true -> REFUSED", "reasons -> 4:3 16:3", "account 13 -> 5");
        test(6, "`isGreater`: whether it goes to a greater place", "ferry 0 5 5", "lock 0 6 1", "move 0 0 true", "pass",
                "move 0 0 false -> 0", "ferryOf 0 1 -> 5", "pass", "move 0 1 true -> 0", "ferryOf 0 2 -> 6", "pass",
                "move 0 1 false -> 0", "ferryOf 0 2 -> 5");
    }

    private static void pass() {
        test(7, "Returns the side that has it then.", "pass -> 1", "pass -> 0", "pass -> 1", "turn -> 1");
        String refused = "Throws `UnsupportedOperationException` if it is refused for reason 5; the reason is kept for refusal";
        test(7, refused, "ferry 0 0 11", "pass -> REFUSED", "reasons -> 5:0", "turn -> 0", "account 8 -> 0",
                "fog 0 0 1", "pass -> 1", "pass -> 0", "pass -> REFUSED", "reasons -> 5:0", "account 8 -> 2");
        test(7, refused, "ferry 1 5 5", "ferry 1 4 4", "ferry 0 11 11", "ferry 0 10 10", "pass -> 1", "pass -> REFUSED",
                "reasons -> 5:1", "ferry 0 3 9", "pass -> REFUSED", "reasons -> 5:1");
        test(7, refused, "ferry 0 11 10", "lock 1 11 1", "move 0 1 true", "pass -> 0", "pass -> REFUSED",
                "reasons -> 5:0", "ferry 0 10 10 -> 1", "pass -> 1");
    }

    private static void ferryOf() {
        test(8, "Returns a number of a ferry.", "ferry 1 11 0", "ferry 0 0 11", "ferryOf 0 0 -> 1", "ferryOf 0 1 -> 11",
                "ferryOf 0 2 -> 0", "ferryOf 0 3 -> 0", "ferryOf 0 4 -> 0", "ferryOf 0 5 -> 0", "ferryOf 1 0 -> 0",
                "ferryOf 1 1 -> 0", "ferryOf 1 2 -> 11");
        String numbers = "0 for its side, 1 for its place on the river 0, 2 for that on the river 1, 3 for 1 if it is a king, and 0 otherwise, 4 for how many ferries it jumped over so far, 5 for its moves so far";
        test(8, numbers, "ferry 0 3 4", "tug 0 4", "lock 0 5 1", "move 0 0 true", "pass", "ferryOf 0 3 -> 1",
                "ferryOf 0 4 -> 0", "ferryOf 0 5 -> 1", "ferry 1 6 9", "move 0 0 true -> 1", "ferryOf 0 0 -> 0",
                "ferryOf 0 1 -> 7", "ferryOf 0 2 -> 4", "ferryOf 0 3 -> 1", "ferryOf 0 4 -> 1", "ferryOf 0 5 -> 2",
                "move 0 1 true -> REFUSED", "ferryOf 0 5 -> 2", "undo", "ferryOf 0 4 -> 0", "ferryOf 0 5 -> 1");
        test(8, numbers, "ferry 1 3 4", "lock 0 4 1", "ferry 0 2 0", "move 1 0 true -> 1", "ferryOf 0 3 -> 1",
                "ferryOf 0 4 -> 1", "ferryOf 0 5 -> 1", "ferry 1 9 9 -> 1", "ferryOf 1 3 -> 0", "ferryOf 1 4 -> 0",
                "ferryOf 1 5 -> 0");
        test(8, NUMBER, "ferry 1 3 4", "ferry 0 2 0", "ferry 0 9 9", "move 1 0 true -> 1", "pass -> 0",
                "ferryOf 0 4 -> 1", "ferryOf 0 5 -> 1", "ferryOf 1 4 -> 0", "ferryOf 1 5 -> 0", "ferry 1 0 1",
                "ferryOf 2 5 -> 0", "ferryOf 2 4 -> 0");
        test(8, NO_FERRY, "ferryOf 0 0 -> INDEX", "ferryOf -1 0 -> INDEX", "ferry 0 0 0", "ferryOf 1 0 -> INDEX",
                "ferryOf -1 6 -> INDEX", "ferryOf 8 0 -> INDEX", "ferryOf MIN 0 -> INDEX", "ferryOf MAX 0 -> INDEX",
                "ferryOf 1 -1 -> INDEX", "ferryOf 0 0 -> 0", "undo", "ferryOf 0 0 -> INDEX");
        test(8, "Throws `IllegalArgumentException` if what is not from 0 to 5", "ferry 0 0 0",
                "ferryOf 0 6 -> ARGUMENT", "ferryOf 0 -1 -> ARGUMENT", "ferryOf 0 MAX -> ARGUMENT",
                "ferryOf 0 MIN -> ARGUMENT", "ferry 1 1 1", "ferryOf 0 6 -> ARGUMENT", "ferryOf 1 -1 -> ARGUMENT",
                "ferryOf 0 5 -> 0");
    }

    private static void at() {
        test(9, "Returns the number of the ferry, 8 for a tug, -1 for nobody.", "ferry 0 0 11", "ferry 1 11 0",
                "tug 0 10", "tug 1 1", "at 0 0 -> 0", "at 1 11 -> 0", "at 0 11 -> 1", "at 1 0 -> 1", "at 0 10 -> 8",
                "at 1 1 -> 8", "at 0 1 -> -1", "at 1 10 -> -1", "lock 0 1 1", "at 0 1 -> -1", "fog 0 1 1",
                "at 0 1 -> -1");
        test(9, "Returns who is at a place.", "text ferry 0 0 0;ferry 0 1 1;ferry 0 2 2;ferry 0 3 3",
                "text ferry 0 4 4;ferry 0 5 5;ferry 0 6 6;ferry 0 7 8", "at 0 7 -> 7", "at 1 8 -> 7", "at 1 7 -> -1",
                "at 0 8 -> -1");
        test(9, NO_RIVER_OR_PLACE, "at -1 0 -> INDEX", "at 2 0 -> INDEX", "at 0 -1 -> INDEX", "at 0 12 -> INDEX",
                "at 1 -1 -> INDEX", "at 1 12 -> INDEX", "at MIN 0 -> INDEX", "at MAX 0 -> INDEX", "at 0 MIN -> INDEX",
                "at 0 MAX -> INDEX", "at 2 -12 -> INDEX", "at -1 12 -> INDEX", "at 0 11 -> -1", "at 1 0 -> -1");
    }

    private static void lockAt() {
        test(10, "Returns the uses, 0 for no lock.", "lock 0 0 3", "lock 0 11 2", "lock 1 0 1", "lock 1 11 3",
                "lockAt 0 0 -> 3", "lockAt 0 11 -> 2", "lockAt 1 0 -> 1", "lockAt 1 11 -> 3", "lockAt 0 1 -> 0",
                "lockAt 1 10 -> 0");
        test(10, "Returns the uses of the lock at a place.", "lockAt 0 4 -> 0", "lock 0 4 2", "ferry 0 3 0",
                "move 0 0 true", "lockAt 0 4 -> 1", "undo", "lockAt 0 4 -> 2", "lock 0 4 1", "lockAt 0 4 -> 1",
                "move 0 0 true", "lockAt 0 4 -> 0");
        test(10, NO_RIVER_OR_PLACE, "lockAt -1 0 -> INDEX", "lockAt 2 0 -> INDEX", "lockAt 0 -1 -> INDEX",
                "lockAt 0 12 -> INDEX", "lockAt 1 -1 -> INDEX", "lockAt 1 12 -> INDEX", "lockAt MIN 0 -> INDEX",
                "lockAt MAX 0 -> INDEX", "lockAt 0 MIN -> INDEX", "lockAt 0 MAX -> INDEX", "lockAt 2 -12 -> INDEX",
                "lockAt -1 12 -> INDEX", "lockAt 0 11 -> 0", "lockAt 1 0 -> 0");
    }

    private static void isFog() {
        test(11, "Returns whether it is.", "fog 0 11 2", "isFog 0 11 -> true", "isFog 0 0 -> true",
                "isFog 0 1 -> false", "isFog 0 10 -> false", "isFog 1 11 -> false", "fog 1 0 1", "isFog 1 0 -> true",
                "isFog 1 1 -> false", "isFog 1 11 -> false", "fog 1 0 0", "isFog 1 0 -> false");
        test(11, NO_RIVER_OR_PLACE, "fog 0 11 4", "fog 1 11 4", "isFog -1 0 -> INDEX", "isFog 2 0 -> INDEX",
                "isFog 0 -1 -> INDEX", "isFog 0 12 -> INDEX", "isFog 1 -1 -> INDEX", "isFog 1 12 -> INDEX",
                "isFog MIN 0 -> INDEX", "isFog MAX 0 -> INDEX", "isFog 0 MIN -> INDEX", "isFog 0 MAX -> INDEX",
                "isFog 0 3 -> false", "isFog 1 2 -> true");
    }

    private static void turn() {
        test(12, "Returns the side.", "turn -> 0", "pass", "turn -> 1", "pass", "turn -> 0", "times 11 pass",
                "turn -> 1");
        test(12, "Returns the side that has the turn.", "ferry 0 3 3", "turn -> 0", "move 0 0 true", "turn -> 1",
                "undo", "turn -> 0", "text pass -> REFUSED", "turn -> 0", "text move 0 1+;pass;move 0 1+ -> 3",
                "turn -> 1");
    }

    private static void would() {
        String sentence = "Returns 0 for nothing, as it cannot move so, 1 for a step, 2 for a jump over a tug, 3 for one over a ferry.";
        test(13, sentence, "ferry 0 9 8", "ferry 1 10 0", "tug 1 9", "would 0 0 true -> 3", "would 0 1 true -> 2",
                "would 0 0 false -> 0", "would 1 0 false -> 0", "tug 0 11", "would 0 0 true -> 0", "tug 1 10",
                "would 0 1 true -> 0");
        test(13, sentence, "ferry 0 10 0", "would 0 0 true -> 1", "would 0 1 true -> 1", "would 0 1 false -> 0",
                "move 0 0 true", "would 0 1 true -> 0", "pass", "would 0 0 true -> 0", "would 0 1 true -> 1",
                "fog 1 0 1", "would 0 1 true -> 0");
        test(13, sentence, "pass", "ferry 1 1 2", "ferry 0 11 1", "would 0 0 false -> 1", "would 0 1 false -> 3",
                "tug 0 0", "would 0 0 false -> 0", "undo", "undo", "tug 1 1", "would 0 1 false -> 2", "tug 1 0",
                "would 0 1 false -> 0");
        test(13, "Returns what a ferry would do by a move now.", "ferry 0 3 3", "lock 0 4 1", "move 0 0 true", "pass",
                "ferry 1 3 9", "tug 1 2", "would 0 0 false -> 3", "would 0 1 false -> 2", "would 0 0 true -> 1",
                "account 7 -> 1");
        test(13, NO_FERRY_OR_RIVER, "would 0 0 true -> INDEX", "ferry 0 3 3", "would 1 0 true -> INDEX",
                "would -1 0 true -> INDEX", "would 0 2 true -> INDEX", "would 0 -1 true -> INDEX",
                "would MIN 0 false -> INDEX", "would MAX 0 false -> INDEX", "would 0 MIN true -> INDEX",
                "would 0 MAX true -> INDEX", "would 0 1 true -> 1");
    }

    private static void why() {
        String sentence = "Returns the reason or the detail.";
        test(14, sentence, "ferry 0 11 3", "ferry 1 0 4", "tug 1 5", "why 0 0 true false -> 14",
                "why 0 0 true true -> 11", "why 1 0 false false -> 11", "why 1 0 false true -> 0",
                "why 0 1 true false -> 16", "why 0 1 true true -> 4", "why 0 1 false false -> 13",
                "why 0 1 false true -> 3", "fog 1 2 4", "why 0 1 true false -> 12", "why 0 1 true true -> 4",
                "ferry 0 9 10", "ferry 0 10 11", "why 2 0 true false -> 15", "why 2 0 true true -> 3");
        test(14, "Returns a reason of moves for which a ferry cannot move now, or its detail.", "lock 0 0 1", "pass",
                "ferry 1 1 11", "move 0 0 false", "pass", "why 0 0 false false -> 14", "why 0 0 false true -> 0",
                "why 0 0 true false -> NONE", "move 0 0 true", "why 0 0 true false -> 11", "why 0 0 true true -> 0",
                "pass", "why 0 1 true true -> 11", "fog 1 11 1", "why 0 1 true false -> 12", "why 0 1 true true -> 1");
        test(14, NO_FERRY_OR_RIVER, "why 0 0 true false -> INDEX", "ferry 0 3 3", "why 1 0 true false -> INDEX",
                "why -1 0 true true -> INDEX", "why 0 2 true false -> INDEX", "why 0 -1 true true -> INDEX",
                "why MIN 0 false false -> INDEX", "why MAX 0 false true -> INDEX", "why 0 MIN true false -> INDEX",
                "why 0 MAX true false -> INDEX", "why 0 2 true true -> INDEX", "reasons -> ");
        test(14, "Throws `NoSuchElementException` if it can", "ferry 0 3 3", "why 0 0 true false -> NONE",
                "why 0 1 true true -> NONE", "ferry 1 4 9", "tug 1 4", "why 0 0 true false -> NONE",
                "why 0 1 true true -> NONE", "tug 0 5", "why 0 0 true false -> 16", "reasons -> ");
    }

    private static void to() {
        test(15, "Returns the place.", "ferry 0 9 10", "ferry 1 10 0", "to 0 0 true -> 11", "to 0 1 true -> 11",
                "account 7 -> 0", "tug 1 11", "to 0 1 true -> NONE", "undo", "move 0 1 true", "to 1 0 false -> 8",
                "to 1 1 false -> NONE");
        test(15, "Returns the place.", "pass", "ferry 1 2 1", "tug 0 1", "to 0 0 false -> 0", "to 0 1 false -> 0",
                "ferryOf 0 1 -> 2");
        test(15, "Returns the place to which a ferry would come by a move now.", "ferry 0 3 3", "lock 0 4 1",
                "move 0 0 true", "pass", "to 0 0 false -> 3", "to 0 0 true -> 5", "to 0 1 false -> 2", "tug 0 3",
                "to 0 0 false -> 2", "fog 0 4 1", "to 0 0 false -> NONE");
        test(15, NO_FERRY_OR_RIVER, "to 0 0 true -> INDEX", "ferry 0 3 3", "to 1 0 true -> INDEX",
                "to -1 0 true -> INDEX", "to 0 2 true -> INDEX", "to 0 -1 true -> INDEX", "to MIN 0 true -> INDEX",
                "to MAX 0 true -> INDEX", "to 0 MIN true -> INDEX", "to 0 MAX true -> INDEX", "to 0 0 true -> 4");
        test(15, CANNOT, "ferry 0 11 3", "ferry 1 5 4", "ferry 0 10 5", "to 0 0 true -> NONE", "to 0 1 true -> NONE",
                "to 0 0 false -> NONE", "to 1 0 false -> NONE", "to 2 0 true -> NONE", "fog 1 5 1",
                "to 2 1 true -> NONE", "fog 1 5 0", "to 2 1 true -> 6");
    }

    private static void moves() {
        String whole = "Returns how many moves a side would have if it had the turn: ferry by ferry, or, by a second way, place by place.";
        test(16, whole, "both 0 -> 0/0 0/0", "ferry 0 0 11", "both 0 -> 1/1 0/0", "both 1 -> 0/0 0/0", "ferry 1 11 0",
                "both 1 -> 1/1 0/0", "ferry 0 10 5", "both 0 -> 2/2 0/0", "ferry 1 9 6", "both 0 -> 2/2 1/1",
                "both 1 -> 2/2 1/1", "account 7 -> 0", "turn -> 0");
        test(16, HOW_MANY, "ferry 0 9 9", "tug 0 10", "tug 1 10", "both 0 -> 2/2 0/0", "tug 0 11", "both 0 -> 1/1 0/0",
                "fog 1 9 1", "both 0 -> 0/0 0/0", "pass", "both 0 -> 1/1 0/0", "fog 1 6 4", "both 0 -> 0/0 0/0");
        test(16, HOW_MANY, "ferry 1 2 2", "tug 0 1", "ferry 0 9 1", "both 1 -> 2/2 1/1", "ferry 1 0 11",
                "both 1 -> 2/2 1/1", "fog 1 11 4", "both 1 -> 0/0 0/0", "fog 1 11 3", "both 1 -> 1/1 1/1", "fog 1 2 1",
                "both 1 -> 1/1 0/0");
        test(16, HOW_MANY, "ferry 0 4 4", "lock 0 5 1", "move 0 0 true", "both 0 -> 4/4 0/0", "ferry 1 4 3",
                "ferry 1 6 5", "both 0 -> 4/4 4/4", "tug 0 3", "tug 1 6", "both 0 -> 2/2 2/2", "both 1 -> 2/2 0/0",
                "fog 1 2 3", "both 0 -> 1/1 1/1", "both 1 -> 1/1 0/0");
        test(16, NO_SIDE, "moves -1 false -> ARGUMENT", "moves 2 false -> ARGUMENT", "moves -1 true -> ARGUMENT",
                "moves 2 true -> ARGUMENT", "moves MIN true -> ARGUMENT", "moves MAX false -> ARGUMENT", "ferry 0 0 0",
                "moves 2 true -> ARGUMENT", "moves 1 true -> 0", "moves 0 false -> 2");
    }

    private static void captures() {
        String whole = "Returns how many of these are jumps over ferries: by those who jump, or, by a second way, by those over whom they jump.";
        test(17, whole, "ferry 0 9 0", "ferry 1 10 1", "both 0 -> 2/2 2/2", "both 1 -> 1/1 1/1", "tug 0 11",
                "both 0 -> 1/1 1/1", "tug 1 2", "both 0 -> 0/0 0/0", "both 1 -> 1/1 1/1", "tug 0 8",
                "both 1 -> 0/0 0/0");
        test(17, HOW_MANY, "ferry 0 5 5", "ferry 0 6 9", "ferry 1 6 0 -> REFUSED", "both 0 -> 3/3 0/0", "tug 1 6",
                "both 0 -> 3/3 0/0", "captures 1 true -> 0", "ferry 1 7 10", "both 0 -> 3/3 2/2", "both 1 -> 1/1 1/1",
                "fog 0 6 1", "both 0 -> 2/2 1/1");
        test(17, HOW_MANY, "ferry 0 0 3", "ferry 1 1 4", "ferry 1 11 2", "both 1 -> 2/2 0/0", "both 0 -> 2/2 2/2",
                "ferry 1 2 5", "both 0 -> 0/0 0/0");
        test(17, HOW_MANY, "ferry 1 1 11", "ferry 0 0 0", "ferry 0 6 6", "ferry 1 7 9", "move 1 0 true -> 1",
                "both 0 -> 4/4 1/1", "both 1 -> 2/2 1/1", "isWell -> true");
        test(17, NO_SIDE, "captures -1 false -> ARGUMENT", "captures 2 false -> ARGUMENT",
                "captures -1 true -> ARGUMENT", "captures 2 true -> ARGUMENT", "captures MIN true -> ARGUMENT",
                "captures MAX false -> ARGUMENT", "captures 0 true -> 0", "captures 1 false -> 0");
    }

    private static void isThreatened() {
        String sentence = "Returns whether it could.";
        test(18, sentence, "ferry 0 1 3", "ferry 1 2 9", "isThreatened 0 -> true", "isThreatened 1 -> true", "tug 0 0",
                "isThreatened 0 -> false", "isThreatened 1 -> true", "tug 0 3", "isThreatened 1 -> false");
        test(18, sentence, "ferry 0 0 3", "ferry 1 1 4", "isThreatened 0 -> true", "isThreatened 1 -> true", "tug 1 2",
                "isThreatened 0 -> false", "tug 1 5", "isThreatened 1 -> true", "tug 0 2", "isThreatened 1 -> false");
        test(18, sentence, "ferry 0 10 3", "ferry 1 11 9", "isThreatened 1 -> false", "isThreatened 0 -> true",
                "fog 0 11 1", "isThreatened 0 -> false", "fog 0 10 1", "isThreatened 0 -> true");
        test(18, sentence, "ferry 0 5 0", "ferry 0 6 1", "ferry 1 11 11", "isThreatened 0 -> false",
                "isThreatened 1 -> false", "ferry 1 4 10", "isThreatened 0 -> false", "isThreatened 3 -> false",
                "ferry 1 7 9", "isThreatened 1 -> false");
        test(18, sentence, "pass", "ferry 1 6 9", "lock 0 5 1", "move 0 0 false", "ferry 0 6 0", "tug 0 4",
                "isThreatened 1 -> true", "isThreatened 0 -> false", "turn -> 0", "account 2 -> 1");
        test(18, NO_FERRY, "isThreatened 0 -> INDEX", "ferry 0 0 0", "isThreatened 1 -> INDEX",
                "isThreatened -1 -> INDEX", "isThreatened 8 -> INDEX", "isThreatened MIN -> INDEX",
                "isThreatened MAX -> INDEX", "isThreatened 0 -> false");
    }

    private static void gain() {
        String whole = "Returns how many points the side that has the turn would get by a move, less the most that the other side could get by one move behind it, if it had the turn then.";
        test(19, whole, "ferry 0 3 0", "ferry 1 4 11", "gain 0 0 true -> 1", "gain 0 1 true -> -1", "tug 0 2",
                "gain 0 1 true -> 0", "account 7 -> 0", "account 5 -> 0", "account 13 -> 3", "turn -> 0");
        test(19, HOW_MANY, "ferry 0 8 0", "ferry 1 9 11", "ferry 1 11 10", "lock 0 10 1", "gain 0 0 true -> -1",
                "gain 0 1 true -> -1", "lock 0 10 0", "gain 0 0 true -> 0");
        test(19, HOW_MANY, "pass", "ferry 1 6 5", "lock 0 5 1", "move 0 0 false", "ferry 0 4 0", "gain 1 0 true -> 2",
                "gain 1 1 true -> -1", "ferry 1 7 9", "gain 1 0 true -> 1", "undo", "ferry 1 10 2",
                "gain 1 0 true -> 2", "gain 1 1 true -> -1");
        test(19, HOW_MANY, "ferry 0 0 0", "ferry 1 1 11", "ferry 1 3 10", "gain 0 0 true -> 0", "ferry 0 9 9",
                "gain 0 0 true -> 0", "gain 3 0 true -> -1", "gain 3 1 true -> NONE");
        test(19, HOW_MANY, "ferry 0 2 5", "ferry 0 3 0", "ferry 1 9 9", "ferry 1 4 11", "move 1 0 true -> 1",
                "move 2 1 false", "move 0 0 true", "move 2 1 false", "move 1 0 true", "gain 2 0 false -> 0",
                "gain 2 1 false -> -1");
        test(19, NO_FERRY_OR_RIVER, "gain 0 0 true -> INDEX", "ferry 0 3 3", "gain 1 0 true -> INDEX",
                "gain -1 0 true -> INDEX", "gain 0 2 true -> INDEX", "gain 0 -1 true -> INDEX",
                "gain MIN 0 true -> INDEX", "gain MAX 0 true -> INDEX", "gain 0 MIN true -> INDEX",
                "gain 0 MAX true -> INDEX", "gain 0 0 true -> 0");
        test(19, CANNOT, "ferry 0 11 3", "ferry 1 5 4", "tug 1 5", "gain 0 0 true -> NONE", "gain 0 1 true -> NONE",
                "gain 0 1 false -> NONE", "gain 1 0 false -> NONE", "fog 1 3 1", "gain 0 1 true -> NONE",
                "ferry 0 10 0", "gain 2 0 true -> NONE", "gain 2 1 true -> 0");
    }

    private static void best() {
        test(20, NUMBER, "ferry 1 11 0", "ferry 0 0 11", "bests -> 1 0 1", "ferry 0 11 10 -> REFUSED", "ferry 0 1 10",
                "bests -> 2 0 1", "account 7 -> 0", "account 13 -> 3");
        test(20, NUMBER, "pass", "ferry 1 11 11", "bests -> 0 0 0", "ferry 0 5 10", "bests -> 0 1 0");
        test(20, "0 for the ferry, 1 for the river, 2 for 1 if it goes to a greater place, and 0 otherwise", "pass",
                "ferry 0 0 0", "ferry 1 11 5", "ferry 1 9 4", "ferry 0 6 9", "fog 0 6 4", "best 0 -> 1", "best 1 -> 0",
                "best 2 -> 0", "bests -> 1 0 0");
        test(20, "Throws `IllegalArgumentException` if what is not from 0 to 2", "best -1 -> ARGUMENT",
                "best 3 -> ARGUMENT", "best MIN -> ARGUMENT", "best MAX -> ARGUMENT", "ferry 0 3 3",
                "best -1 -> ARGUMENT", "best 3 -> ARGUMENT", "best 2 -> 1");
        String cannot = "Throws `NoSuchElementException` if the side that has the turn cannot move";
        test(20, cannot, "best 0 -> NONE", "best 1 -> NONE", "best 2 -> NONE", "ferry 1 5 5", "best 0 -> NONE", "pass",
                "bests -> 0 0 0");
        test(20, cannot, "ferry 0 11 11", "best 0 -> NONE", "ferry 0 0 10", "bests -> 1 0 1", "fog 0 0 1",
                "best 2 -> NONE", "undo", "tug 0 1", "bests -> 1 0 1", "tug 0 2", "best 1 -> NONE", "turn -> 0");
    }

    private static void bestOfSeveral() {
        String sentence = "Returns a number of the move with the greatest gain, of several that of the lowest ferry, then on the lower river, then to the greater place.";
        test(20, sentence, "ferry 0 0 0", "ferry 0 5 5", "bests -> 0 0 1", "fog 0 0 1", "bests -> 0 1 1", "fog 1 0 1",
                "bests -> 1 0 1", "fog 0 5 1", "bests -> 0 0 1");
        test(20, sentence, "ferry 0 0 0", "ferry 0 5 5", "ferry 1 11 6", "tug 1 4", "bests -> 1 1 1", "tug 0 1",
                "tug 0 2", "bests -> 1 1 1");
        test(20, sentence, "lock 0 5 1", "ferry 0 4 4", "move 0 0 true", "pass", "bests -> 0 0 1", "tug 0 6", "tug 0 7",
                "bests -> 0 0 0", "tug 0 4", "tug 0 3", "bests -> 0 1 1", "tug 1 5", "tug 1 6", "bests -> 0 1 0");
        test(20, sentence, "lock 0 5 1", "ferry 0 4 4", "move 0 0 true", "ferry 1 4 11", "move 1 1 false",
                "bests -> 0 0 0", "gain 0 0 false -> 1", "ferry 1 11 3", "bests -> 0 0 0", "tug 0 3", "bests -> 0 1 0");
        test(20, sentence, "ferry 0 0 3", "ferry 0 5 8", "ferry 1 11 10", "bests -> 0 0 1", "ferry 1 10 5",
                "gain 0 1 true -> -1", "bests -> 0 0 1", "fog 0 0 1", "bests -> 1 0 1");
    }

    private static void toLock() {
        test(21, HOW_MANY, "ferry 0 0 10", "ferry 1 11 1", "lock 0 11 1", "lock 1 11 1", "toLock 0 0 -> 11",
                "toLock 0 1 -> 1", "toLock 1 0 -> NONE", "toLock 1 1 -> NONE", "lock 0 0 3", "lock 1 0 3",
                "toLock 1 0 -> 11", "toLock 1 1 -> 1", "toLock 0 0 -> 11", "lock 0 1 1", "toLock 0 0 -> 1",
                "toLock 1 0 -> 10");
        test(21,
                "Returns how many places a ferry has to go until it comes to the next lock on a river, to the side to which it goes, or a king to either side.",
                "lock 1 6 1", "ferry 0 5 5", "move 0 1 true", "toLock 0 1 -> NONE", "toLock 0 0 -> NONE", "lock 0 0 1",
                "toLock 0 0 -> 5", "lock 0 11 1", "toLock 0 0 -> 5", "lock 0 9 1", "toLock 0 0 -> 4", "lock 0 2 1",
                "toLock 0 0 -> 3", "lock 0 8 2", "toLock 0 0 -> 3", "lock 0 6 1", "toLock 0 0 -> 1", "lock 1 11 1",
                "toLock 0 1 -> 5", "lock 1 0 1", "toLock 0 1 -> 5");
        test(21, NO_FERRY_OR_RIVER, "lock 0 4 1", "toLock 0 0 -> INDEX", "ferry 0 3 3", "toLock 1 0 -> INDEX",
                "toLock -1 0 -> INDEX", "toLock 0 2 -> INDEX", "toLock 0 -1 -> INDEX", "toLock MIN 0 -> INDEX",
                "toLock MAX 0 -> INDEX", "toLock 0 MIN -> INDEX", "toLock 0 MAX -> INDEX", "toLock 0 0 -> 1");
        test(21, "Throws `NoSuchElementException` if there is none", "ferry 0 11 3", "ferry 1 0 4",
                "toLock 0 0 -> NONE", "toLock 0 1 -> NONE", "lock 0 11 1", "lock 0 0 1", "lock 1 4 1",
                "toLock 0 0 -> NONE", "toLock 1 0 -> NONE", "toLock 1 1 -> NONE", "toLock 0 1 -> 1", "lock 1 4 0",
                "toLock 0 1 -> NONE", "lock 1 2 1", "toLock 0 1 -> NONE", "toLock 1 1 -> 2");
    }

    private static void boldest() {
        String order = "Returns a ferry by how many it jumped over so far: the most first, of several kings ahead of others, then the lowest.";
        test(22, order, "lock 1 1 1", "lock 1 6 1", "ferry 0 0 10", "ferry 0 11 0", "ferry 0 5 5", "boldest 0 -> 0",
                "boldest 1 -> 1", "boldest 2 -> 2", "move 2 1 true", "pass", "boldest 0 -> 2", "boldest 1 -> 0",
                "boldest 2 -> 1", "move 1 1 true", "pass", "boldest 0 -> 1", "boldest 1 -> 2", "boldest 2 -> 0",
                "ferry 1 1 0", "move 0 0 true -> 1", "boldest 0 -> 0", "boldest 1 -> 1", "boldest 2 -> 2");
        test(22, order, "lock 0 4 1", "ferry 0 3 0", "ferry 0 7 7", "ferry 1 8 11", "move 0 0 true", "boldest 0 -> 0",
                "move 2 1 false", "move 1 0 true -> 1", "boldest 0 -> 1", "boldest 1 -> 0");
        test(22, order, "ferry 0 0 10", "ferry 0 6 0", "ferry 1 1 5", "ferry 1 3 6", "ferry 1 7 7", "ferry 1 11 11",
                "move 0 0 true -> 1", "boldest 0 -> 0", "move 1 0 true -> 1", "turn -> 1", "boldest 0 -> 0",
                "boldest 1 -> 1", "boldest 2 -> 2");
        test(22, "Returns the ferry.", "ferry 0 3 0", "ferry 1 4 9", "ferry 1 11 11", "boldest 0 -> 0",
                "boldest 2 -> 2", "move 0 1 true", "move 1 0 false -> 1", "boldest 0 -> 0", "ferryOf 0 0 -> 1",
                "boldest 1 -> 1");
        test(22, "Throws `NoSuchElementException` if there is no such place", "boldest 0 -> NONE", "boldest -1 -> NONE",
                "ferry 0 3 3", "boldest 1 -> NONE", "boldest -1 -> NONE", "boldest MIN -> NONE", "boldest MAX -> NONE",
                "boldest 8 -> NONE", "boldest 0 -> 0", "undo", "boldest 0 -> NONE");
        test(22, "Throws `NoSuchElementException` if there is no such place",
                "text ferry 0 0 0;ferry 0 1 1;ferry 0 2 2;ferry 0 3 3",
                "text ferry 0 4 4;ferry 0 5 5;ferry 0 6 6;ferry 0 7 7", "boldest 7 -> 7", "boldest 8 -> NONE");
    }

    private static void farthest() {
        String order = "by its places on both rivers together, those of the side 1 told from 11 down; the farthest first, of several the lowest.";
        test(23, order, "ferry 0 0 0", "ferry 1 11 11", "ferry 1 1 1", "ferry 0 10 10", "farthest 0 -> 2",
                "farthest 1 -> 3", "farthest 2 -> 0", "farthest 3 -> 1", "ferry 1 9 2", "farthest 2 -> 4",
                "ferry 0 2 9", "farthest 2 -> 4", "farthest 3 -> 5", "farthest 4 -> 0", "farthest 5 -> 1");
        test(23, order, "ferry 1 8 8", "ferry 0 3 3", "farthest 0 -> 0", "farthest 1 -> 1", "move 1 1 true",
                "farthest 0 -> 1", "move 0 0 false", "farthest 0 -> 0", "ferry 0 0 11", "farthest 0 -> 2",
                "ferry 1 11 0", "farthest 0 -> 2", "farthest 1 -> 3", "farthest 2 -> 0");
        test(23, "Returns the ferry.", "ferry 0 0 0", "ferry 0 11 11", "farthest 0 -> 1", "farthest 1 -> 0");
        test(23, "Throws `NoSuchElementException` if there is no such place", "farthest 0 -> NONE",
                "farthest -1 -> NONE", "ferry 0 3 3", "farthest 1 -> NONE", "farthest -1 -> NONE",
                "farthest MIN -> NONE", "farthest MAX -> NONE", "farthest 8 -> NONE", "farthest 0 -> 0", "undo",
                "farthest 0 -> NONE");
        test(23, "Throws `NoSuchElementException` if there is no such place",
                "text ferry 0 0 0;ferry 0 1 1;ferry 0 2 2;ferry 0 3 3",
                "text ferry 0 4 4;ferry 0 5 5;ferry 0 6 6;ferry 0 7 7", "farthest 7 -> 0", "farthest 0 -> 7",
                "farthest 8 -> NONE");
    }

    private static void riverLine() {
        test(24, "Returns its length.", "riverLine 0 -> 12", "ferry 0 0 0", "tug 1 11", "riverLine 1 -> 12",
                "line -> a..........*");
        test(24, "Writes the line of a river, in place of the line before.", "ferry 0 0 5", "riverLine 0",
                "line -> a...........", "ferryLine 0 -> 6", "riverLine 1 -> 12", "line -> .....a......", "ferry 1 6 6",
                "line -> .....a......");
        test(24, "Throws `IndexOutOfBoundsException` if there is no such river", "riverLine 1", "riverLine 2 -> INDEX",
                "riverLine -1 -> INDEX", "riverLine MIN -> INDEX", "riverLine MAX -> INDEX", "line -> ............");
    }

    private static void ferryLine() {
        test(25, "Returns its length.", "ferry 1 9 9", "ferry 0 10 0", "ferry 1 0 10", "ferry 0 11 11",
                "ferryLine 0 -> 6", "line -> a1@9/9", "ferryLine 1 -> 7", "line -> b0@10/0", "ferryLine 2 -> 7",
                "line -> c1@0/10", "ferryLine 3 -> 8", "line -> d0@11/11");
        test(25, "Writes the line of a ferry, in place of the line before.", "ferry 1 9 9", "riverLine 0",
                "ferryLine 0 -> 6", "line -> a1@9/9", "character 6 -> INDEX", "pass", "move 0 0 false",
                "line -> a1@9/9", "ferryText 0 -> a1@8/9");
        test(25, NO_FERRY, "ferryLine 0 -> INDEX", "ferry 0 3 3", "ferryLine 0", "ferryLine 1 -> INDEX",
                "ferryLine -1 -> INDEX", "ferryLine 8 -> INDEX", "ferryLine MIN -> INDEX", "ferryLine MAX -> INDEX",
                "line -> a0@3/3", "undo", "ferryLine 0 -> INDEX", "line -> a0@3/3");
    }

    private static void character() {
        test(26, "Returns the character.", "ferry 1 11 3", "riverLine 0", "character 0 -> .", "character 11 -> a",
                "ferryLine 0", "character 0 -> a", "character 1 -> 1", "character 2 -> @", "character 4 -> 1",
                "character 5 -> /", "character 6 -> 3");
        test(26, "Returns a character of the line, which is empty at first.", "character 0 -> INDEX", "ferry 0 0 0",
                "character 0 -> INDEX", "riverLine 1", "character 0 -> a");
        test(26, "Throws `IndexOutOfBoundsException` if there is no such index", "character -1 -> INDEX",
                "character 0 -> INDEX", "character 1 -> INDEX", "riverLine 0", "character 12 -> INDEX",
                "character -1 -> INDEX", "character MIN -> INDEX", "character MAX -> INDEX", "character 11 -> .",
                "ferry 0 3 3", "ferryLine 0", "character 6 -> INDEX", "character 11 -> INDEX", "character 5 -> 3");
    }

    private static void append() {
        test(27, "Returns the characters in the input then.", "append p -> 1", "append \u0000 -> 2",
                "append \uffff -> 3", "append ; -> 4", "account 12 -> 4", "run -> ARGUMENT", "append q -> 1");
        String full = "Throws `IllegalStateException` if the input contains 60 characters";
        test(27, full, "times 59 append x -> 59", "append x -> 60", "append x -> STATE", "append ; -> STATE",
                "account 12 -> 60", "pass", "undo", "append x -> STATE", "run -> ARGUMENT", "errorPosition -> 0",
                "times 60 append y -> 60", "append y -> STATE");
        test(27, full, "type pass;pass;pass;pass;pass;pass;pass;pass;pass;pass;pass;pass -> 59", "append ; -> 60",
                "append p -> STATE", "run -> ARGUMENT", "errorPosition -> 60", "account 12 -> 0", "account 8 -> 0");
    }

    private static void run() {
        test(28, "Returns the number of orders.", "text pass -> 1", "text pass;pass -> 2",
                "text pass;pass;pass;pass;pass;pass;pass;pass;pass;pass;pass;pass -> 12", "account 8 -> 15",
                "account 13 -> 3", "undo -> 2", "account 8 -> 3");
        test(28, "Carries out the text in the input, which is empty afterwards, also if an exception is thrown.",
                "text pass -> 1", "account 12 -> 0", "text pas -> ARGUMENT", "account 12 -> 0",
                "text tug 9 9 -> ARGUMENT", "account 12 -> 0", "text lock 0 0 0 -> REFUSED", "account 12 -> 0",
                "run -> ARGUMENT", "account 12 -> 0", "text pass -> 1");
        String wrong = "Throws `IllegalArgumentException` if the text has an error, or the method for an order would throw another exception than UnsupportedOperationException; if the text has no error, its position is -1";
        test(28, wrong, "run -> ARGUMENT", "errorPosition -> 0", "text x -> ARGUMENT", "errorPosition -> 0",
                "text pass; -> ARGUMENT", "errorPosition -> 5", "reasons -> ");
        test(28, wrong, "ferry 0 3 3", "text ferry 2 0 0 -> ARGUMENT", "errorPosition -> -1",
                "text ferry 0 12 0 -> ARGUMENT", "text ferry 0 0 12 -> ARGUMENT", "text tug 2 0 -> ARGUMENT",
                "text tug 1 12 -> ARGUMENT", "text lock 2 0 1 -> ARGUMENT", "text lock 0 12 1 -> ARGUMENT",
                "text lock 0 0 4 -> ARGUMENT", "text fog 2 0 1 -> ARGUMENT", "text fog 0 12 1 -> ARGUMENT",
                "text fog 0 0 5 -> ARGUMENT", "text move 1 0+ -> ARGUMENT", "text move 0 2+ -> ARGUMENT",
                "errorPosition -> -1", "reasons -> ", "account 13 -> 1");
        test(28, wrong, "text tug 0 0;tug 0 1;ferry 0 2 99 -> ARGUMENT", "errorPosition -> -1", "account 3 -> 0",
                "undo -> STATE");
        String refused = "Throws `UnsupportedOperationException` if it is refused for reason 6; the reason is kept for refusal";
        test(28, refused, "text lock 1 11 0 -> REFUSED", "reasons -> 6:0 3:0", "errorPosition -> -1",
                "text tug 0 0;ferry 1 0 1 -> REFUSED", "reasons -> 6:1 2:0",
                "text tug 1 0;tug 1 1;tug 1 2;tug 1 3;tug 1 4 -> REFUSED", "reasons -> 6:4 1:4",
                "text ferry 0 5 5;pass -> REFUSED", "reasons -> 6:1 5:0", "text ferry 0 5 5;move 0 1- -> REFUSED",
                "reasons -> 6:1 4:0 13:5", "account 13 -> 0", "account 0 -> 0", "account 11 -> 0");
        test(28, refused, "times 8 pass", "text tug 0 0;tug 0 0 -> REFUSED", "account 13 -> 8", "times 8 undo -> 0",
                "account 8 -> 0");
    }

    private static void errorPosition() {
        test(29, "Returns the error position, or -1 if that text had no error or run has not been called.",
                "errorPosition -> -1", "append x", "errorPosition -> -1", "run -> ARGUMENT", "errorPosition -> 0",
                "run -> ARGUMENT", "errorPosition -> 0", "text pass -> 1", "errorPosition -> -1");
        test(29, "Returns the error position of the text of the latest call of run.", "text f -> ARGUMENT",
                "errorPosition -> 1", "append q", "errorPosition -> 1", "run -> ARGUMENT", "errorPosition -> 0",
                "text pass -> 1", "errorPosition -> -1", "text pass;; -> ARGUMENT", "errorPosition -> 5",
                "text pass;lock 0 0 0 -> REFUSED", "errorPosition -> -1", "text fo -> ARGUMENT", "errorPosition -> 2",
                "text tug 2 0 -> ARGUMENT", "errorPosition -> -1", "tug 0 0", "undo", "save", "restore",
                "errorPosition -> -1");
    }

    private static void refusal() {
        test(30, "Returns the reason or the detail.", "ferry 0 5 7", "text tug 0 0;move 0 1- -> REFUSED",
                "refusal 0 false -> 6", "refusal 0 true -> 1", "refusal 1 false -> 4", "refusal 1 true -> 0",
                "refusal 2 false -> 13", "refusal 2 true -> 7", "refusal 3 false -> NONE", "refusal 3 true -> NONE",
                "tug 0 5 -> REFUSED", "refusal 0 false -> 2", "refusal 0 true -> 5", "refusal 1 false -> NONE",
                "move 0 0 false -> REFUSED", "refusal 0 false -> 4", "refusal 1 true -> 5", "refusal 2 true -> NONE");
        test(30, "Throws `IllegalArgumentException` if the depth is below 0", "refusal -1 false -> ARGUMENT",
                "refusal -1 true -> ARGUMENT", "refusal MIN true -> ARGUMENT", "lock 0 0 0 -> REFUSED",
                "refusal -1 false -> ARGUMENT", "refusal 0 false -> 3");
        test(30, "Throws `NoSuchElementException` if nothing was refused, or nothing stands behind so far",
                "refusal 0 false -> NONE", "refusal 0 true -> NONE", "tug 2 0 -> INDEX", "ferry 2 0 0 -> ARGUMENT",
                "text x -> ARGUMENT", "text tug 2 0 -> ARGUMENT", "undo -> STATE", "best 0 -> NONE",
                "refusal 0 false -> NONE", "lock 0 0 0 -> REFUSED", "refusal 0 true -> 0", "refusal 1 true -> NONE",
                "refusal 1 false -> NONE", "refusal MAX false -> NONE");
        test(30, "Returns the reason of the latest refusal, one that stands behind it, or a detail.", "ferry 0 5 5",
                "why 0 0 false false -> 13", "would 0 0 false -> 0", "to 0 0 false -> NONE", "gain 0 0 false -> NONE",
                "refusal 0 false -> NONE", "move 0 0 false -> REFUSED", "best 0 -> 0", "move 0 0 true",
                "tug 0 12 -> INDEX", "reasons -> 4:0 13:5", "ferry 0 6 6 -> REFUSED", "reasons -> 2:6");
    }

    private static void account() {
        test(31, "Returns the account.", "accounts -> 0 0 0 0 0 0 0 0 0 0 0 0 0 0", "ferry 0 3 0", "ferry 1 4 11",
                "ferry 1 10 10", "tug 0 0", "tug 1 5", "lock 0 5 1", "lock 0 8 3", "append z",
                "accounts -> 3 1 0 2 2 0 0 0 0 0 0 3 1 7", "move 0 0 true -> 1",
                "accounts -> 2 1 1 2 1 1 0 1 0 1 1 3 1 8", "move 1 0 false -> 0",
                "accounts -> 2 1 1 2 1 1 0 2 0 1 1 3 1 8", "undo", "undo", "accounts -> 3 1 0 2 2 0 0 0 0 0 0 3 1 6");
        test(31, "Returns an account.", "pass", "ferry 1 8 3", "ferry 0 7 9", "move 0 0 false -> 1", "account 6 -> 1",
                "account 5 -> 0", "account 1 -> 0", "account 9 -> 1", "account 11 -> 2", "account 8 -> 1", "pass",
                "account 8 -> 2", "account 7 -> 1", "ferry 0 0 0", "account 1 -> 1", "account 11 -> 3");
        test(31, "4 for the locks of both", "lock 0 0 3", "account 4 -> 1", "lock 1 11 2", "account 4 -> 2",
                "lock 0 0 1", "account 4 -> 2", "lock 0 0 0", "account 4 -> 1", "ferry 0 0 10", "move 0 1 true",
                "account 4 -> 1", "lockAt 1 11 -> 1", "account 10 -> 1");
        test(31, "Throws `IllegalArgumentException` if what is not from 0 to 13", "account -1 -> ARGUMENT",
                "account 14 -> ARGUMENT", "account MIN -> ARGUMENT", "account MAX -> ARGUMENT", "account 13 -> 0",
                "account 0 -> 0");
    }

    private static void isWell() {
        String sentence = "Returns whether this is so.";
        test(32, sentence, "isWell -> true", "ferry 0 11 0", "isWell -> true", "ferry 1 0 11", "ferry 1 1 1",
                "isWell -> true", "move 0 1 true -> 1", "isWell -> true", "undo", "isWell -> true", "ferry 1 5 5",
                "save", "move 0 1 true -> 1", "restore", "isWell -> true");
        test(32, sentence, "text ferry 0 0 0;ferry 1 1 1;ferry 0 2 2;ferry 1 3 3",
                "text ferry 0 4 4;ferry 1 5 5;ferry 0 6 6;ferry 1 7 7", "isWell -> true", "tug 0 8", "isWell -> true",
                "move 6 1 true -> 1", "isWell -> true", "fog 0 11 4", "isWell -> true", "fog 1 4 4", "isWell -> true");
    }

    private static void meanJumps() {
        String sentence = "Returns the sum divided by how many there are, both as doubles.";
        test(33, sentence, "ferry 0 0 0", "meanJumps -> 0.0", "ferry 1 1 11", "ferry 1 3 10", "ferry 1 9 9",
                "ferry 0 11 8", "move 0 0 true -> 1", "meanJumps -> 0.25", "move 0 0 true -> 1",
                "meanJumps -> 0.6666666666666666", "undo", "meanJumps -> 0.25");
        test(33, sentence, "ferry 0 0 0", "ferry 1 1 11", "move 0 0 true -> 1", "meanJumps -> 1.0", "ferry 1 9 9",
                "ferry 0 11 8", "meanJumps -> 0.3333333333333333");
        test(33, "Returns the mean of how many ferries those that are there jumped over so far.", "ferry 0 0 0",
                "ferry 1 1 11", "move 0 0 true -> 1", "pass", "ferry 1 3 8", "move 0 0 true -> 1", "meanJumps -> 2.0");
        test(33, "Throws `ArithmeticException` if there are none", "meanJumps -> ARITHMETIC", "tug 0 0",
                "meanJumps -> ARITHMETIC", "ferry 0 3 3", "meanJumps -> 0.0", "undo", "meanJumps -> ARITHMETIC");
    }

    private static void kingShare() {
        String sentence = "Returns how many are divided by how many there are, both as floats.";
        test(34, sentence, "lock 0 4 3", "ferry 0 3 0", "kingShare -> 0.0", "move 0 0 true", "kingShare -> 1.0",
                "ferry 1 11 11", "kingShare -> 0.5", "ferry 1 10 10", "kingShare -> 0.33333334", "undo", "undo", "undo",
                "kingShare -> 0.0");
        test(34, "Returns the share of the ferries that are kings.", "lock 0 4 1", "lock 1 8 1", "ferry 0 3 0",
                "ferry 1 11 9", "ferry 0 9 4", "kingShare -> 0.0", "move 0 0 true", "move 1 1 false",
                "kingShare -> 0.6666667", "ferry 0 10 11", "kingShare -> 0.5");
        test(34, "Returns the share of the ferries that are kings.", "pass", "lock 1 8 1", "ferry 0 3 0", "ferry 1 4 9",
                "move 1 1 false", "kingShare -> 0.5", "account 2 -> 1", "move 0 0 true -> 2", "kingShare -> 0.0",
                "account 2 -> 0", "meanJumps -> 1.0");
        test(34, "Throws `ArithmeticException` if there are none", "kingShare -> ARITHMETIC", "lock 0 0 1",
                "kingShare -> ARITHMETIC", "ferry 0 3 3", "kingShare -> 0.0", "undo", "kingShare -> ARITHMETIC");
    }

    private static void undo() {
        String sentence = "Returns the number of changes that can still be undone.";
        test(35, sentence, "tug 0 0", "undo -> 0", "tug 0 0", "tug 0 1", "undo -> 1", "undo -> 0", "times 9 pass",
                "undo -> 7", "tug 0 0", "undo -> 7", "times 7 undo -> 0");
        test(35, "Undoes the latest change.", "ferry 0 3 0", "ferry 1 4 9", "lock 0 5 1", "fog 0 11 1", "fog 1 8 2",
                "move 0 0 true -> 1", "undo -> 5", "ferryText 0 -> a0@3/0", "ferryText 1 -> b1@4/9", "lockAt 0 5 -> 1",
                "fogs 0 -> ...........f", "fogs 1 -> ........ff..", "turn -> 0",
                "accounts -> 2 1 0 0 1 0 0 0 0 0 0 2 0 5", "ferryOf 0 4 -> 0", "ferryOf 0 5 -> 0");
        test(35, "Undoes the latest change.", "fog 0 11 1", "pass", "undo", "fogs 0 -> ...........f", "turn -> 0",
                "account 8 -> 0", "undo", "fogs 0 -> ............", "tug 0 3", "undo", "at 0 3 -> -1", "lock 1 3 2",
                "lock 1 3 3", "undo", "lockAt 1 3 -> 2", "ferry 1 3 3", "undo", "account 0 -> 0", "account 11 -> 0",
                "text tug 0 1;tug 0 2;pass -> 3", "undo", "account 3 -> 0", "turn -> 0");
        String none = "Throws `IllegalStateException` if no change can be undone";
        test(35, none, "undo -> STATE", "tug 2 0 -> INDEX", "lock 0 0 0 -> REFUSED", "save", "append x", "riverLine 0",
                "undo -> STATE", "tug 0 0", "undo -> 0", "undo -> STATE", "undo -> STATE");
        test(35, none, "times 8 pass", "times 8 undo -> 0", "account 8 -> 0", "undo -> STATE");
        test(35, none, "times 9 pass", "times 8 undo -> 0", "account 8 -> 1", "turn -> 1", "undo -> STATE",
                "account 8 -> 1");
        test(35, none, "save", "pass", "restore", "undo -> STATE", "pass", "undo -> 0");
    }

    private static void save() {
        test(36, "Returns the ferries.", "save -> 0", "ferry 0 0 0", "save -> 1",
                "text ferry 0 1 1;ferry 0 2 2;ferry 0 3 3;ferry 0 4 4", "text ferry 0 5 5;ferry 0 6 6;ferry 0 7 7",
                "save -> 8", "tug 0 11", "save -> 8");
        String place = "Takes a snapshot of what changes can change, in place of an earlier one.";
        test(36, place, "tug 0 0", "save", "tug 0 1", "save", "tug 0 2", "account 13 -> 3", "restore",
                "river 0 -> **..........", "undo -> STATE");
        test(36, place, "ferry 0 3 0", "ferry 1 4 9", "lock 0 5 2", "fog 0 11 1", "fog 1 9 3", "tug 1 1", "save -> 2",
                "move 0 0 true -> 1", "lock 1 1 1", "move 0 1 true -> REFUSED", "restore -> 2",
                "accounts -> 2 1 0 1 1 0 0 0 0 0 0 2 0 0", "ferryText 0 -> a0@3/0", "ferryText 1 -> b1@4/9",
                "locks 0 -> 000002000000", "locks 1 -> 000000000000", "fogs 0 -> ...........f",
                "fogs 1 -> .........fff", "turn -> 0", "at 1 1 -> 8");
        test(36, place, "save", "ferry 0 3 0", "undo", "save", "ferry 0 5 5", "restore -> 0", "account 11 -> 0");
    }

    private static void restore() {
        test(37, "Returns the ferries.", "save", "ferry 0 3 0", "restore -> 0", "ferry 0 3 0", "ferry 1 4 9", "save",
                "move 0 0 true -> 1", "account 0 -> 1", "restore -> 2", "account 0 -> 2");
        String stays = "Makes everything that changes can change as it is in the snapshot, which stays.";
        test(37, stays, "tug 0 5", "pass", "save", "tug 0 6", "pass", "restore",
                "accounts -> 0 0 0 1 0 0 0 0 1 0 0 0 0 0", "turn -> 1", "tug 0 7", "pass", "restore",
                "river 0 -> .....*......", "turn -> 1", "tug 0 8", "undo", "times 9 pass", "restore", "account 8 -> 1",
                "account 13 -> 0");
        String none = "Throws `IllegalStateException` if there is no snapshot";
        test(37, none, "restore -> STATE", "tug 0 0", "restore -> STATE", "account 13 -> 1", "undo", "restore -> STATE",
                "save", "restore -> 0", "restore -> 0");
    }
}
