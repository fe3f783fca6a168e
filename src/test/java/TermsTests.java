import java.io.IOException;

/** For each sentence of the document's terms that names a boundary, a test of its own. */
public final class TermsTests {
    private static final String TERMS = "Terms";
    private static Sentences sentences;

    public static void main(String[] args) throws IOException {
        sentences = new Sentences(args[0]);
        calls();
        rivers();
        ferries();
        tugs();
        steps();
        jumps();
        points();
        fogHolds();
        locks();
        kingsAtLocks();
        fog();
        fogDrifts();
        turnStays();
        passing();
        reasonsOfMoves();
        reasonsOfMovesInTheirOrder();
        lines();
        input();
        texts();
        signsOfTexts();
        textsAreWholeOrNothing();
        reasons();
        reasonsInTheirOrder();
        undo();
        exceptions();
        whatStays();
        inDoubt();
        inDoubtOfTurns();
        inDoubtOfLocks();
        sentences.closeWith("TermsTests");
    }

    private static void test(String sentence, String... rows) {
        sentences.test(TERMS, sentence, rows);
    }

    private static void calls() {
        sentences.test("What it is", "An object is used for at most 512 calls after it has been made",
                "times 511 pass -> 1", "account 8 -> 511");
        test("All numbers are whole, but two", "ferry 0 3 3", "ferry 0 4 4", "ferry 1 9 9", "meanJumps -> 0.0",
                "kingShare -> 0.0", "lock 0 5 1", "move 1 0 true", "kingShare -> 0.33333334");
    }

    private static void rivers() {
        String sentence = "There are the rivers 0 and 1, each with the places 0 to 11 in a row.";
        test(sentence, "tug 0 0 -> 1", "tug 0 11 -> 2", "tug 1 0 -> 1", "tug 1 11 -> 2", "ferry 0 1 10 -> 0",
                "river 0 -> *a.........*", "river 1 -> *.........a*");
        test(sentence, "tug 0 -1 -> INDEX", "tug 1 -1 -> INDEX", "tug 0 12 -> INDEX", "tug 1 12 -> INDEX",
                "tug -1 0 -> INDEX", "tug 2 0 -> INDEX", "tug -1 11 -> INDEX", "tug 2 -12 -> INDEX", "at 0 12 -> INDEX",
                "at 1 -1 -> INDEX", "at -1 12 -> INDEX", "accounts -> 0 0 0 0 0 0 0 0 0 0 0 0 0 0");
        test("At a place of a river is at most one ferry or tug.", "ferry 0 5 6", "tug 0 2", "tug 1 3",
                "ferry 1 5 0 -> REFUSED", "reasons -> 2:5", "ferry 1 0 6 -> REFUSED", "reasons -> 2:6",
                "ferry 0 2 0 -> REFUSED", "reasons -> 2:2", "ferry 0 0 3 -> REFUSED", "reasons -> 2:3",
                "tug 0 5 -> REFUSED", "reasons -> 2:5", "tug 1 6 -> REFUSED", "reasons -> 2:6", "tug 0 2 -> REFUSED",
                "reasons -> 2:2", "tug 1 3 -> REFUSED", "reasons -> 2:3");
        test("At a place of a river is at most one ferry or tug.", "ferry 0 5 6", "tug 0 2", "tug 1 3", "tug 0 6 -> 2",
                "tug 1 5 -> 2", "ferry 1 3 2 -> 1", "river 0 -> ..*b.a*.....", "river 1 -> ..b*.*a.....");
        test("A ferry jumped is off both rivers.", "ferry 0 3 0", "ferry 1 4 11", "move 0 0 true -> 1", "at 0 4 -> -1",
                "at 1 11 -> -1", "river 0 -> .....a......", "river 1 -> a...........", "tug 1 11 -> 1", "tug 0 4 -> 1");
    }

    private static void ferries() {
        String sentence = "At most 8 ferries are there, numbered from 0, each of the side 0 or 1, and at one place of each river.";
        test(sentence, "ferry 0 0 0 -> 0", "ferry 1 1 1 -> 1", "ferry 0 2 2 -> 2", "ferry 1 3 3 -> 3",
                "ferry 0 4 4 -> 4", "ferry 1 5 5 -> 5", "ferry 0 6 6 -> 6", "ferry 1 7 7 -> 7",
                "ferry 0 8 8 -> REFUSED", "reasons -> 1:8", "account 0 -> 8", "account 11 -> 8",
                "river 0 -> abcdefgh....", "move 6 0 true -> 1", "account 0 -> 7", "ferry 0 9 9 -> 7",
                "ferry 0 10 10 -> REFUSED", "reasons -> 1:8", "account 11 -> 9");
        test(sentence, "ferry -1 0 0 -> ARGUMENT", "ferry 2 0 0 -> ARGUMENT", "ferry MIN 0 0 -> ARGUMENT",
                "ferry MAX 0 0 -> ARGUMENT", "ferry 0 0 0 -> 0", "ferry 1 11 11 -> 1", "ferryOf 0 0 -> 0",
                "ferryOf 1 0 -> 1");
        String less = "When one is gone, the numbers of the later ones become 1 less.";
        test(less, "ferry 1 5 9", "ferry 0 4 0", "ferry 1 0 3", "move 1 0 true -> 1", "river 0 -> b.....a.....",
                "river 1 -> a..b........", "ferryOf 0 4 -> 1", "ferryOf 0 5 -> 1", "ferryOf 0 0 -> 0",
                "ferryOf 1 0 -> 1", "ferryOf 1 4 -> 0", "ferryOf 2 0 -> INDEX");
        test(less, "ferry 0 4 0", "ferry 1 9 9", "ferry 1 5 3", "move 0 0 true -> 1", "river 0 -> ......a..b..",
                "river 1 -> a........b..", "ferryOf 2 0 -> INDEX");
        test(less, "ferry 1 1 11", "ferry 0 0 0", "ferry 0 3 1", "ferry 1 4 2", "ferry 0 5 3", "ferry 1 6 4",
                "ferry 0 7 5", "ferry 1 8 6", "move 1 0 true -> 1", "river 0 -> ..abcdefg...",
                "river 1 -> abcdefg.....", "ferryOf 7 0 -> INDEX", "ferryOf 6 0 -> 1");
        String atFirst = "A ferry is a king or is not, as at first.";
        test(atFirst, "ferry 1 3 4", "lock 0 4 1", "ferry 0 2 0", "move 1 0 true -> 1", "ferryText 0 -> A0@4/0",
                "ferry 1 9 9 -> 1", "ferryText 1 -> b1@9/9", "ferryOf 1 3 -> 0", "account 2 -> 1");
        test(atFirst, "lock 0 3 1", "ferry 0 3 3", "ferryOf 0 3 -> 0", "account 2 -> 0", "ferryText 0 -> a0@3/3");
    }

    private static void tugs() {
        String sentence = "On each river there can be tugs, at most 4.";
        test(sentence, "tug 0 0 -> 1", "tug 0 3 -> 2", "tug 0 6 -> 3", "tug 0 11 -> 4", "tug 0 5 -> REFUSED",
                "reasons -> 1:4", "tug 1 5 -> 1", "tug 1 0 -> 2", "tug 1 1 -> 3", "tug 1 11 -> 4", "tug 1 6 -> REFUSED",
                "reasons -> 1:4", "account 3 -> 8");
        test(sentence, "tug 0 1", "tug 0 4", "tug 0 7", "tug 0 10", "ferry 0 0 0", "move 0 0 true -> 0",
                "river 0 -> *.a.*..*..*.", "tug 0 5 -> REFUSED", "undo", "undo", "undo", "tug 0 5 -> 4");
    }

    private static void steps() {
        String sentence = "one of the side 0 goes to the next greater place, one of the side 1 to the next lesser one, and a king to either";
        test(sentence, "ferry 0 10 0", "ferry 1 1 11", "move 0 0 true -> 0", "ferryOf 0 1 -> 11", "move 1 0 false -> 0",
                "ferryOf 1 1 -> 0", "move 0 0 true -> REFUSED", "reasons -> 4:0 14:11", "move 0 1 true -> 0",
                "move 1 0 false -> REFUSED", "reasons -> 4:1 14:0");
        test(sentence, "ferry 0 5 5", "ferry 1 7 9", "move 0 0 false -> REFUSED", "reasons -> 4:0 13:5",
                "move 0 1 true -> 0", "move 1 0 true -> REFUSED", "reasons -> 4:1 13:7", "move 1 1 true -> REFUSED",
                "reasons -> 4:1 13:9", "move 1 1 false -> 0", "ferryText 1 -> b1@7/8");
        test(sentence, "ferry 0 10 5", "lock 0 11 1", "move 0 0 true -> 0", "pass -> 0", "reason 0 0 true -> 14:11",
                "would 0 0 false -> 1", "move 0 0 false -> 0", "pass -> 0", "move 0 1 false -> 0",
                "ferryText 0 -> A0@10/4");
        test(sentence, "pass -> 1", "ferry 1 1 5", "lock 0 0 1", "move 0 0 false -> 0", "pass -> 1",
                "reason 0 0 false -> 14:0", "move 0 0 true -> 0", "pass -> 1", "move 0 1 true -> 0",
                "ferryText 0 -> A1@1/6");
        test("If that place is free, it goes there.", "ferry 0 3 3", "fog 0 4 4", "lock 0 4 1", "to 0 0 true -> 4",
                "move 0 0 true -> 0", "at 0 3 -> -1", "at 0 4 -> 0", "at 1 3 -> 0");
    }

    private static void jumps() {
        String sentence = "If a ferry of the other side, or a tug, is there, and the place beyond is free, it jumps to this.";
        test(sentence, "ferry 0 9 0", "ferry 1 10 11", "to 0 0 true -> 11", "move 0 0 true -> 1", "ferryOf 0 1 -> 11");
        test(sentence, "pass", "ferry 1 2 11", "ferry 0 1 0", "to 0 0 false -> 0", "move 0 0 false -> 1",
                "ferryOf 0 1 -> 0");
        test(sentence, "ferry 0 9 0", "tug 0 10", "to 0 0 true -> 11", "move 0 0 true -> 0", "river 0 -> .........*.a");
        test(sentence, "pass", "ferry 1 11 2", "tug 1 1", "to 0 1 false -> 0", "move 0 1 false -> 0",
                "river 1 -> a.*.........");
        test(sentence, "ferry 0 10 10", "ferry 1 11 0", "tug 1 11", "move 0 0 true -> REFUSED", "reasons -> 4:0 16:11",
                "move 0 1 true -> REFUSED", "reasons -> 4:0 16:11");
        test(sentence, "pass", "ferry 1 1 1", "ferry 0 0 11", "tug 1 0", "move 0 0 false -> REFUSED",
                "reasons -> 4:0 16:0", "move 0 1 false -> REFUSED", "reasons -> 4:0 16:0");
        test(sentence, "ferry 0 3 3", "ferry 1 4 9", "ferry 0 5 0", "move 0 0 true -> REFUSED", "reasons -> 4:0 16:4",
                "undo", "ferry 1 5 0", "move 0 0 true -> REFUSED", "reasons -> 4:0 16:4", "undo", "tug 0 5",
                "move 0 0 true -> REFUSED", "reasons -> 4:0 16:4", "undo", "tug 1 5", "move 0 0 true -> 1");
        test(sentence, "ferry 0 3 3", "tug 0 4", "ferry 0 5 0", "would 0 0 true -> 0", "undo", "ferry 1 5 0",
                "would 0 0 true -> 0", "undo", "tug 0 5", "would 0 0 true -> 0", "undo", "would 0 0 true -> 2");
        test(sentence, "ferry 0 3 3", "ferry 0 4 9", "would 0 0 true -> 0", "move 0 0 true -> REFUSED",
                "reasons -> 4:0 15:1");
    }

    private static void points() {
        String sentence = "and the side gets 1 point, and 2 for a king; a tug that is jumped over goes to the place from which the ferry came.";
        test(sentence, "pass", "ferry 1 6 5", "lock 0 5 1", "move 0 0 false -> 0", "ferry 0 4 0", "move 1 0 true -> 2",
                "account 5 -> 2", "account 6 -> 0", "account 2 -> 0", "account 9 -> 1", "river 0 -> ......a.....");
        test(sentence, "ferry 0 4 0", "ferry 1 5 9", "lock 0 6 1", "move 0 0 true -> 1", "account 5 -> 1",
                "account 6 -> 0", "account 2 -> 1");
        test(sentence, "pass", "ferry 1 6 5", "ferry 0 5 9", "move 0 0 false -> 1", "account 5 -> 0", "account 6 -> 1");
        test(sentence, "ferry 0 0 3", "tug 0 1", "tug 1 1", "move 0 0 true -> 0", "river 0 -> *.a.........",
                "river 1 -> .*.a........", "account 5 -> 0", "account 9 -> 0", "ferryOf 0 4 -> 0");
        test(sentence, "pass", "ferry 1 3 11", "tug 1 10", "tug 1 0", "move 0 1 false -> 0", "river 1 -> *........a.*",
                "account 3 -> 2");
    }

    private static void fogHolds() {
        String sentence = "A ferry in fog on a river does not move on it.";
        test(sentence, "ferry 0 3 3", "fog 0 3 1", "move 0 0 true -> REFUSED", "reasons -> 4:0 12:1",
                "would 0 1 true -> 1", "move 0 1 true -> 0");
        test(sentence, "ferry 0 6 2", "fog 0 3 4", "would 0 0 true -> 0", "fog 0 2 4", "would 0 0 true -> 1",
                "fog 0 7 4", "would 0 0 true -> 1", "fog 0 6 4", "would 0 0 true -> 0");
        test(sentence, "ferry 0 0 2", "fog 0 11 2", "would 0 0 true -> 0", "fog 0 11 1", "would 0 0 true -> 1",
                "fog 0 9 4", "would 0 0 true -> 0", "fog 0 8 4", "would 0 0 true -> 1");
        test(sentence, "ferry 0 3 3", "ferry 1 4 9", "fog 0 4 2", "move 0 0 true -> 1", "ferryOf 0 1 -> 5");
    }

    private static void locks() {
        test("A lock is at a place of a river, and has from 1 to 3 uses.", "lock 0 5 1 -> 0", "lock 0 5 3 -> 1",
                "lock 0 5 2 -> 3", "lock 0 5 4 -> ARGUMENT", "lock 0 5 -1 -> ARGUMENT", "lockAt 0 5 -> 2",
                "lockAt 1 5 -> 0", "lock 1 0 3 -> 0", "lock 1 11 1 -> 0", "locks 0 -> 000002000000",
                "locks 1 -> 300000000001", "account 4 -> 3");
        test("A lock stays under ferries and tugs.", "lock 0 5 2", "lock 1 6 3", "ferry 0 5 5", "tug 1 6",
                "lockAt 0 5 -> 2", "lockAt 1 6 -> 3", "river 0 -> .....a......", "river 1 -> .....a*.....",
                "move 0 1 true -> 0", "river 1 -> .....*=a....", "lockAt 1 6 -> 3", "pass", "move 0 0 true",
                "river 0 -> .....=a.....", "lockAt 0 5 -> 2", "account 2 -> 0");
        test("A lock stays under ferries and tugs.", "lock 0 3 2", "ferry 0 3 0", "tug 0 4", "move 0 0 true -> 0",
                "at 0 3 -> 8", "lockAt 0 3 -> 2", "lock 0 3 0 -> 2", "lock 0 3 1 -> 0", "account 10 -> 0");
    }

    private static void kingsAtLocks() {
        String sentence = "When a ferry that is no king comes to it by a move, it becomes a king, and the lock has 1 use less; without uses it is gone.";
        test(sentence, "lock 0 3 3", "ferry 0 2 0", "move 0 0 true", "lockAt 0 3 -> 2", "pass", "move 0 0 true", "pass",
                "ferry 0 2 1", "move 1 0 true", "lockAt 0 3 -> 1", "pass", "move 0 0 true", "pass", "move 1 0 true",
                "pass", "ferry 0 2 2", "move 2 0 true", "lockAt 0 3 -> 0", "account 4 -> 0", "account 10 -> 3",
                "river 0 -> ...CBA......");
        test(sentence, "lock 0 3 1", "ferry 0 2 0", "ferry 0 1 1", "move 0 0 true", "pass", "move 0 0 true", "pass",
                "move 1 0 true", "pass", "move 1 0 true", "ferryText 1 -> b0@3/1", "account 10 -> 1");
        test(sentence, "lock 0 5 1", "ferry 0 3 0", "ferry 1 4 9", "move 0 0 true -> 1", "ferryText 0 -> A0@5/0",
                "lockAt 0 5 -> 0");
        test(sentence, "lock 1 5 2", "lock 1 3 1", "ferry 0 0 3", "tug 1 4", "move 0 1 true -> 0",
                "ferryText 0 -> A0@0/5", "lockAt 1 5 -> 1", "lockAt 1 3 -> 1");
        test(sentence, "lock 0 4 1", "ferry 0 3 0", "tug 0 4", "move 0 0 true -> 0", "ferryText 0 -> a0@5/0",
                "lockAt 0 4 -> 1");
        test(sentence, "lock 0 4 1", "ferry 0 3 4", "move 0 1 true", "ferryText 0 -> a0@3/5", "pass", "move 0 0 true",
                "ferryText 0 -> A0@4/5");
        test(sentence, "lock 0 4 1", "lock 0 5 2", "lock 1 1 3", "ferry 0 3 0", "move 0 0 true", "pass",
                "move 0 0 true", "pass", "move 0 1 true", "lockAt 0 5 -> 2", "lockAt 1 1 -> 3", "account 10 -> 1");
        test(sentence, "ferry 0 3 3", "lock 0 3 2", "ferryOf 0 3 -> 0", "lockAt 0 3 -> 2", "pass -> REFUSED",
                "move 0 1 true", "ferryOf 0 3 -> 0", "lockAt 0 3 -> 2");
        test(sentence, "pass", "lock 1 0 1", "ferry 1 5 1", "move 0 1 false -> 0", "ferryText 0 -> A1@5/0",
                "account 10 -> 1");
    }

    private static void fog() {
        test("On each river is a bank of fog, from 0 to 4 places wide, at first 0.", "fogs 0 -> ............",
                "fogs 1 -> ............", "fog 0 0 5 -> ARGUMENT", "fog 0 0 -1 -> ARGUMENT", "fog 0 0 4 -> 0",
                "fogs 0 -> ffff........", "fogs 1 -> ............", "fog 1 4 1 -> 0", "fogs 1 -> ....f.......",
                "fog 0 6 2 -> 4", "fogs 0 -> ......ff....", "fog 0 6 0 -> 2", "fogs 0 -> ............");
        test("It begins at a place and goes on to greater ones, and behind the place 11 with the place 0.", "fog 0 8 4",
                "fogs 0 -> ........ffff", "fog 0 9 4", "fogs 0 -> f........fff", "fog 0 11 4", "fogs 0 -> fff........f",
                "fog 0 11 1", "fogs 0 -> ...........f", "fog 0 11 2", "fogs 0 -> f..........f", "fog 0 0 1",
                "fogs 0 -> f...........", "fog 1 10 3", "fogs 1 -> f.........ff", "fog 1 0 4",
                "fogs 1 -> ffff........");
    }

    private static void fogDrifts() {
        String sentence = "Behind each move and each pass the fog of each river that is 1 place wide at least begins 1 place further on, behind 11 at 0.";
        test(sentence, "fog 0 11 1", "fog 1 10 4", "pass", "fogs 0 -> f...........", "fogs 1 -> fff........f",
                "fog 0 0 1 -> REFUSED", "fog 1 11 4 -> REFUSED", "pass", "fogs 0 -> .f..........",
                "fogs 1 -> ffff........", "fog 1 0 4 -> REFUSED", "reasons -> 3:4");
        test(sentence, "fog 0 11 1", "fog 1 0 2", "times 12 pass", "fogs 0 -> ...........f", "fogs 1 -> ff..........",
                "fog 0 11 1 -> REFUSED");
        test(sentence, "fog 0 5 0", "fog 1 11 0", "pass", "fog 0 5 0 -> REFUSED", "reasons -> 3:0",
                "fog 1 11 0 -> REFUSED", "fog 1 0 0 -> 0");
        test(sentence, "ferry 0 3 3", "fog 0 6 1", "fog 1 11 3", "move 0 1 true", "fogs 0 -> .......f....",
                "fogs 1 -> fff.........", "tug 0 0", "lock 0 0 1", "ferry 1 10 10", "fogs 0 -> .......f....",
                "fogs 1 -> fff.........", "move 1 0 true -> REFUSED", "pass -> REFUSED", "fogs 0 -> .......f....");
        test(sentence, "ferry 0 3 3", "tug 0 4", "fog 1 8 2", "move 0 0 true", "fogs 1 -> .........ff.");
        test(sentence, "ferry 0 3 3", "ferry 1 4 9", "fog 1 8 2", "fog 0 0 1", "move 0 0 true -> 1",
                "fogs 1 -> .........ff.", "fogs 0 -> .f..........");
        test(sentence, "fog 1 5 1", "lock 1 11 2", "ferry 0 3 0", "ferry 1 4 9", "fog 0 6 1", "move 0 0 true -> 1",
                "pass -> 0", "locks 1 -> 000000000002", "locks 0 -> 000000000000", "fogs 0 -> ........f...",
                "fogs 1 -> .......f....");
        test(sentence, "fog 0 1 1", "fog 0 2 1 -> 1", "fogs 0 -> ..f.........", "text fog 0 11 1;pass;pass -> 3",
                "fogs 0 -> .f..........", "undo", "fogs 0 -> ..f.........");
    }

    private static void turnStays() {
        String sentence = "Behind a move the other side has the turn, but if the ferry jumped over another one, and could do so again at once on one of the rivers, fog having drifted, the turn stays.";
        test(sentence, "ferry 0 0 0", "ferry 1 1 11", "ferry 1 3 10", "move 0 0 true -> 1", "turn -> 0",
                "move 0 0 true -> 1", "turn -> 1");
        test(sentence, "ferry 0 0 4", "ferry 1 1 11", "ferry 1 9 5", "move 0 0 true -> 1", "turn -> 0",
                "move 0 1 true -> 1", "turn -> 1");
        test(sentence, "ferry 0 0 4", "ferry 1 9 5", "move 0 0 true -> 0", "turn -> 1");
        test(sentence, "ferry 0 0 0", "tug 0 1", "ferry 1 3 10", "move 0 0 true -> 0", "would 0 0 true -> 0",
                "turn -> 1");
        test(sentence, "ferry 0 0 0", "ferry 1 1 11", "tug 0 3", "move 0 0 true -> 1", "turn -> 1");
        test(sentence, "ferry 0 0 0", "ferry 1 1 11", "ferry 1 3 10", "tug 0 4", "move 0 0 true -> 1", "turn -> 1");
        test(sentence, "ferry 0 7 0", "ferry 1 8 11", "ferry 1 10 10", "move 0 0 true -> 1", "turn -> 0",
                "move 0 0 true -> 1", "ferryOf 0 1 -> 11", "turn -> 1");
        test(sentence, "ferry 0 8 0", "ferry 1 9 11", "ferry 1 11 10", "move 0 0 true -> 1", "turn -> 1");
        test(sentence, "ferry 0 0 0", "ferry 1 1 11", "ferry 1 3 10", "fog 0 1 1", "move 0 0 true -> 1", "turn -> 1");
        test(sentence, "ferry 0 0 0", "ferry 1 1 11", "ferry 1 3 10", "fog 0 2 1", "move 0 0 true -> 1", "turn -> 0");
        test(sentence, "ferry 0 0 4", "ferry 1 1 11", "ferry 1 9 5", "fog 1 3 1", "move 0 0 true -> 1", "turn -> 1");
        test(sentence, "ferry 0 0 4", "ferry 0 6 8", "ferry 1 1 11", "ferry 1 7 5", "ferry 1 3 9", "fog 0 1 1",
                "fog 1 3 1", "would 1 0 true -> 3", "move 0 0 true -> 1", "would 1 0 true -> 0", "turn -> 1");
        test(sentence, "pass", "ferry 1 11 3", "ferry 0 10 6", "ferry 0 8 9", "move 0 0 false -> 1", "turn -> 1",
                "move 0 0 false -> 1", "turn -> 0");
        test(sentence, "ferry 1 1 11", "ferry 0 0 0", "ferry 1 3 10", "move 1 0 true -> 1", "turn -> 0",
                "move 0 0 true -> 1", "turn -> 1", "account 5 -> 2", "ferryOf 0 4 -> 2", "ferryOf 0 5 -> 2");
        test(sentence, "ferry 1 1 11", "ferry 0 0 0", "ferry 0 9 3", "ferry 1 10 5", "move 1 0 true -> 1",
                "would 1 0 true -> 0", "turn -> 1");
        test(sentence, "ferry 0 9 3", "ferry 0 0 0", "ferry 1 1 11", "ferry 1 10 5", "move 1 0 true -> 1", "turn -> 1");
    }

    private static void passing() {
        String sentence = "A side that cannot move any of its ferries passes the turn.";
        test(sentence, "pass -> 1", "pass -> 0", "account 8 -> 2", "account 7 -> 0");
        test(sentence, "ferry 0 11 11", "turn -> 0", "pass -> 1", "turn -> 1", "pass -> 0");
        test(sentence, "ferry 1 5 5", "pass -> 1", "pass -> REFUSED", "reasons -> 5:0", "turn -> 1");
        test(sentence, "ferry 0 11 10", "pass -> REFUSED", "reasons -> 5:0", "fog 1 10 1", "pass -> 1",
                "fogs 1 -> ...........f");
        test(sentence, "ferry 0 10 11", "ferry 1 11 10", "pass -> 1", "pass -> REFUSED", "reasons -> 5:1");
        test(sentence, "ferry 0 9 11", "ferry 1 10 10", "pass -> REFUSED", "reasons -> 5:0", "tug 0 11", "pass -> 1");
        test(sentence, "ferry 0 9 11", "tug 0 10", "pass -> REFUSED", "reasons -> 5:0", "tug 0 11", "pass -> 1");
    }

    private static void reasonsOfMoves() {
        String first = "11, it is not the turn of its side: the side that has it";
        test(first, "ferry 0 5 5", "ferry 1 8 8", "reason 1 0 false -> 11:0", "reason 1 1 true -> 11:0",
                "move 0 0 true", "reason 0 0 true -> 11:1", "move 0 1 true -> REFUSED", "reasons -> 4:0 11:1");
        String second = "12, it is in fog there: how wide this is";
        test(second, "ferry 0 0 5", "fog 0 0 1", "reason 0 0 true -> 12:1", "fog 0 9 4", "reason 0 0 true -> 12:4",
                "fog 0 8 4", "would 0 0 true -> 1", "why 0 0 true true -> NONE", "fog 1 4 2", "reason 0 1 true -> 12:2",
                "move 0 1 true -> REFUSED", "reasons -> 4:0 12:2");
        String third = "13, it does not go that way: its place";
        test(third, "ferry 0 0 5", "ferry 1 11 8", "reason 0 0 false -> 13:0", "reason 0 1 false -> 13:5",
                "move 0 1 true", "reason 1 0 true -> 13:11", "reason 1 1 true -> 13:8");
        String fourth = "14, the river ends there: its place";
        test(fourth, "ferry 0 11 5", "ferry 1 9 0", "reason 0 0 true -> 14:11", "move 0 1 true",
                "reason 1 1 false -> 14:0");
        test(fourth, "ferry 0 10 5", "would 0 0 true -> 1", "undo", "pass", "ferry 1 1 5", "would 0 0 false -> 1");
        String fifth = "15, a ferry of its own side is there: that one";
        test(fifth, "ferry 0 5 10", "ferry 0 6 3", "ferry 0 0 11", "reason 0 0 true -> 15:1", "reason 0 1 true -> 15:2",
                "pass -> REFUSED", "reasons -> 5:1");
        test(fifth, "pass", "ferry 1 5 10", "ferry 1 4 9", "reason 0 0 false -> 15:1", "reason 0 1 false -> 15:1");
        String sixth = "16, the place beyond is not there or not free: the place over which it would jump";
        test(sixth, "ferry 0 10 3", "ferry 1 11 4", "tug 1 5", "reason 0 0 true -> 16:11", "reason 0 1 true -> 16:4");
        test(sixth, "pass", "ferry 1 1 8", "tug 0 0", "tug 1 7", "ferry 0 11 6", "reason 0 0 false -> 16:0",
                "reason 0 1 false -> 16:7");
        test(sixth, "ferry 0 3 3", "tug 0 4", "ferry 0 5 9", "reason 0 0 true -> 16:4");
    }

    /** Each reason with a later one that applies as well. */
    private static void reasonsOfMovesInTheirOrder() {
        String sentence = "Why a ferry cannot move is told by the first of these reasons that applies, with a detail";
        test(sentence, "ferry 1 5 5", "fog 0 5 2", "reason 0 0 false -> 11:0", "pass -> 1", "fog 0 5 2",
                "reason 0 0 false -> 12:2");
        test(sentence, "ferry 1 5 5", "reason 0 0 true -> 11:0", "pass -> 1", "reason 0 0 true -> 13:5");
        test(sentence, "ferry 1 0 5", "reason 0 0 false -> 11:0", "pass -> 1", "reason 0 0 false -> 14:0");
        test(sentence, "ferry 1 5 5", "ferry 1 4 0", "reason 0 0 false -> 11:0", "pass -> 1",
                "reason 0 0 false -> 15:1");
        test(sentence, "ferry 1 5 5", "tug 0 4", "tug 0 3", "reason 0 0 false -> 11:0", "pass -> 1",
                "reason 0 0 false -> 16:4");
        test(sentence, "ferry 0 5 5", "fog 0 4 3", "reason 0 0 false -> 12:3", "fog 0 4 0", "reason 0 0 false -> 13:5");
        test(sentence, "ferry 0 11 5", "fog 0 10 2", "reason 0 0 true -> 12:2", "fog 0 10 1",
                "reason 0 0 true -> 14:11");
        test(sentence, "ferry 0 5 5", "ferry 0 6 0", "fog 0 5 1", "reason 0 0 true -> 12:1", "fog 0 6 1",
                "reason 0 0 true -> 15:1");
        test(sentence, "ferry 0 5 5", "tug 0 6", "tug 0 7", "fog 0 5 1", "reason 0 0 true -> 12:1", "fog 0 6 1",
                "reason 0 0 true -> 16:6");
        test(sentence, "ferry 0 0 5", "ferry 0 4 0", "ferry 0 3 1", "tug 0 9", "tug 0 8", "ferry 0 10 2",
                "reason 0 0 false -> 13:0", "reason 1 0 false -> 13:4", "reason 3 0 false -> 13:10");
        test(sentence, "ferry 0 5 5", "ferry 0 6 0", "tug 0 7", "reason 0 0 true -> 15:1");
        test(sentence, "ferry 0 10 5", "ferry 0 11 0", "reason 0 0 true -> 15:1");
    }

    private static void lines() {
        String ofRiver = "The line of a river has for each place the letter of the ferry there, a to h, a capital one for a king, or \"*\" for a tug, or else \"=\" for a lock, or \".\" without anything.";
        test(ofRiver, "riverLine 0 -> 12", "line -> ............", "riverLine 1 -> 12", "line -> ............");
        test(ofRiver, "ferry 0 11 0", "ferry 1 10 1", "ferry 0 9 2", "ferry 1 8 3", "ferry 0 7 4", "ferry 1 6 5",
                "ferry 0 5 6", "ferry 1 4 7", "river 0 -> ....hgfedcba", "river 1 -> abcdefgh....");
        test(ofRiver, "ferry 1 11 0", "ferry 1 10 1", "ferry 1 9 2", "ferry 1 8 3", "ferry 1 7 4", "ferry 1 6 5",
                "ferry 1 5 6", "ferry 0 0 10", "lock 1 11 1", "lock 1 0 3", "lock 1 10 2", "tug 1 9", "tug 0 1",
                "lock 0 1 1", "lock 0 2 1", "move 7 1 true", "river 0 -> H*=..gfedcba", "river 1 -> abcdefg..*=H");
        test(ofRiver, "ferry 0 0 5", "lock 0 1 1", "move 0 0 true", "river 0 -> .A..........", "pass", "lock 0 1 2",
                "river 0 -> .A..........", "move 0 0 true", "river 0 -> .=A.........");
        String ofFerry = "The line of a ferry is its letter in the same way, the number of its side, \"@\", and its places on both rivers with \"/\" between them; as in \"B1@3/10\".";
        test(ofFerry, "ferry 0 0 0", "ferry 1 4 10", "lock 0 3 1", "move 0 1 true", "move 1 0 false",
                "ferryText 1 -> B1@3/10", "ferryLine 1 -> 7");
        test(ofFerry, "ferry 0 0 9", "ferry 1 9 10", "ferry 0 10 0", "ferry 1 11 11", "ferryLine 0 -> 6",
                "ferryText 0 -> a0@0/9", "ferryText 1 -> b1@9/10", "ferryText 2 -> c0@10/0", "ferryLine 2 -> 7",
                "ferryText 3 -> d1@11/11", "ferryLine 3 -> 8");
        test(ofFerry, "ferry 1 11 0", "ferry 1 10 1", "ferry 1 9 2", "ferry 1 8 3", "ferry 1 7 4", "ferry 1 6 5",
                "ferry 1 5 6", "ferry 0 10 11 -> REFUSED", "ferry 0 0 11", "ferryText 7 -> h0@0/11", "lock 0 1 1",
                "move 7 0 true", "ferryText 7 -> H0@1/11");
    }

    private static void input() {
        String sentence = "The input has at most 60 characters.";
        test(sentence, "type 123456789012345678901234567890123456789012345678901234567890 -> 60", "append x -> STATE",
                "account 12 -> 60", "run -> ARGUMENT", "account 12 -> 0", "append x -> 1");
        test(sentence, "text tug 0 1;tug 0 2;tug 0 3;tug 0 4;tug 1 1;tug 1 2;tug 1 3;pass -> 8",
                "river 0 -> .****.......", "river 1 -> .***........", "turn -> 1", "account 12 -> 0");
        test(sentence, "type tug 0 1;tug 0 2;tug 0 3;tug 0 4;tug 1 1;tug 1 2;tug 1 3;pass -> 60", "append ; -> STATE",
                "run -> 8", "errorPosition -> -1");
    }

    private static void texts() {
        String orders = "A text consists of orders with a semicolon between two of them, each a word and numbers, with a blank ahead of each number";
        test(orders, "text  -> ARGUMENT", "errorPosition -> 0", "text ; -> ARGUMENT", "errorPosition -> 0",
                "text ;pass -> ARGUMENT", "errorPosition -> 0", "text pass; -> ARGUMENT", "errorPosition -> 5",
                "text pass;;pass -> ARGUMENT", "errorPosition -> 5", "text pass pass -> ARGUMENT", "errorPosition -> 4",
                "text  pass -> ARGUMENT", "errorPosition -> 0", "text pass;pass -> 2", "errorPosition -> -1",
                "text pass -> 1", "account 8 -> 3");
        test(orders, "text tug 0  1 -> ARGUMENT", "errorPosition -> 6", "text tug  0 1 -> ARGUMENT",
                "errorPosition -> 4", "text tug0 1 -> ARGUMENT", "errorPosition -> 3", "text tug 01 -> ARGUMENT",
                "errorPosition -> 5", "text tug 0 1  -> ARGUMENT", "errorPosition -> 7", "text tug 0 1 -> 1");
        test("\"ferry\", a side and two places", "text ferry 1 11 0 -> 1", "text ferry 0 0 11 -> 1",
                "river 0 -> b..........a", "river 1 -> a..........b", "ferryOf 0 0 -> 1", "ferryOf 1 0 -> 0");
        test("\"tug\", a river and a place;", "text tug 1 11 -> 1", "text tug 0 0 -> 1", "river 0 -> *...........",
                "river 1 -> ...........*");
        test("\"lock\", a river, a place and uses", "text lock 1 11 3 -> 1", "text lock 0 0 1 -> 1",
                "locks 0 -> 100000000000", "locks 1 -> 000000000003", "text lock 0 0 0 -> 1", "account 4 -> 1");
        test("\"fog\", a river, a place and a width", "text fog 1 11 4 -> 1", "text fog 0 0 1 -> 1",
                "fogs 0 -> f...........", "fogs 1 -> fff........f", "text fog 1 11 0 -> 1", "fogs 1 -> ............");
        test("\"move\", a ferry, a river, and \"+\" or \"-\" side by side with it", "ferry 0 0 5", "ferry 1 11 8",
                "text move 0 1+ -> 1", "text move 1 0- -> 1", "ferryText 0 -> a0@0/6", "ferryText 1 -> b1@10/8",
                "text move 0 1- -> REFUSED", "reasons -> 6:0 4:0 13:6", "text move 0 1 + -> ARGUMENT",
                "errorPosition -> 8", "text move 0 1 -> ARGUMENT", "errorPosition -> 8", "text move 0 +1 -> ARGUMENT",
                "errorPosition -> 7");
        test("\"pass\".", "text pass -> 1", "text pass 0 -> ARGUMENT", "errorPosition -> 4", "turn -> 1");
        test("Places have one or two digits, all other numbers one.", "text ferry 0 00 01 -> 1", "text tug 1 09 -> 1",
                "text lock 0 07 1;fog 0 08 1 -> 2", "river 0 -> a......=....", "river 1 -> .a.......*..",
                "fogs 0 -> ........f...", "text tug 0 010 -> ARGUMENT", "errorPosition -> 8",
                "text tug 00 1 -> ARGUMENT", "errorPosition -> 5", "text ferry 0 000 1 -> ARGUMENT",
                "errorPosition -> 10", "text ferry 0 1 000 -> ARGUMENT", "errorPosition -> 12",
                "text lock 0 1 01 -> ARGUMENT", "errorPosition -> 10", "text fog 0 1 01 -> ARGUMENT",
                "errorPosition -> 9", "text lock 0 100 1 -> ARGUMENT", "errorPosition -> 9",
                "text fog 0 100 1 -> ARGUMENT", "errorPosition -> 8", "text move 00 1+ -> ARGUMENT",
                "errorPosition -> 6", "text move 0 01+ -> ARGUMENT", "errorPosition -> 8");
        test("Places have one or two digits, all other numbers one.", "text tug 0 12 -> ARGUMENT",
                "errorPosition -> -1", "text tug 0 99 -> ARGUMENT", "errorPosition -> -1", "text tug 9 9 -> ARGUMENT",
                "errorPosition -> -1", "text lock 0 0 9 -> ARGUMENT", "errorPosition -> -1",
                "text fog 0 0 9 -> ARGUMENT", "errorPosition -> -1", "text ferry 9 0 0 -> ARGUMENT",
                "errorPosition -> -1", "text move 9 0+ -> ARGUMENT", "errorPosition -> -1");
    }

    /** What can stand behind each beginning of an order, so that all other signs are errors there. */
    private static final String[][] CONTINUED = {
        {"", "fltmp"}, {"f", "eo"}, {"fe", "r"}, {"fer", "r"}, {"ferr", "y"}, {"ferry", " "}, {"ferry ", "#"},
        {"ferry 0", " "}, {"ferry 0 ", "#"}, {"ferry 0 1", "# "}, {"ferry 0 11", " "}, {"ferry 0 1 ", "#"},
        {"ferry 0 11 ", "#"}, {"ferry 0 1 2", "#;"}, {"ferry 0 1 10", ";"}, {"ferry 0 11 1", "#;"},
        {"t", "u"}, {"tu", "g"}, {"tug", " "}, {"tug ", "#"}, {"tug 0", " "}, {"tug 0 ", "#"}, {"tug 0 1", "#;"},
        {"tug 0 11", ";"}, {"l", "o"}, {"lo", "c"}, {"loc", "k"}, {"lock", " "}, {"lock ", "#"}, {"lock 0", " "},
        {"lock 0 ", "#"}, {"lock 0 1", "# "}, {"lock 0 11", " "}, {"lock 0 1 ", "#"}, {"lock 0 1 2", ";"},
        {"lock 0 11 2", ";"}, {"fo", "g"}, {"fog", " "}, {"fog ", "#"}, {"fog 0", " "}, {"fog 0 ", "#"},
        {"fog 0 1", "# "}, {"fog 0 11", " "}, {"fog 0 1 ", "#"}, {"fog 0 1 2", ";"}, {"fog 0 11 2", ";"},
        {"m", "o"}, {"mo", "v"}, {"mov", "e"}, {"move", " "}, {"move ", "#"}, {"move 0", " "}, {"move 0 ", "#"},
        {"move 0 1", "+-"}, {"move 0 1+", ";"}, {"move 0 1-", ";"}, {"p", "a"}, {"pa", "s"}, {"pas", "s"},
        {"pass", ";"}, {"pass;", "fltmp"}, {"pass;f", "eo"}, {"pass;pass;l", "o"}, {"tug 0 11;", "fltmp"},
        {"move 0 1-;fog 0 1", "# "}, {"lock 0 1 2;pass;ferry 0 11", " "}};

    private static void signsOfTexts() {
        String sentence = "The error position of a text is the offset of the first character that cannot continue such a text, or the length of the text if it ends too early; words are looked at letter by letter.";
        test(sentence, "text fer -> ARGUMENT", "errorPosition -> 3", "text fex -> ARGUMENT", "errorPosition -> 2",
                "text fxr -> ARGUMENT", "errorPosition -> 1", "text lug 0 1 -> ARGUMENT", "errorPosition -> 1",
                "text x -> ARGUMENT", "errorPosition -> 0", "text passx -> ARGUMENT", "errorPosition -> 4",
                "text pass;x -> ARGUMENT", "errorPosition -> 5", "text pass;pasx -> ARGUMENT", "errorPosition -> 8",
                "text tug 0 1;tug 0 2;tug 0 3;tug 0 4;tug 1 1;tug 1 2;tug 1 3;pas; -> ARGUMENT", "errorPosition -> 59",
                "text pass;pass;pass;pass;pass;pass;pass;pass;pass;pass;pass;pass; -> ARGUMENT", "errorPosition -> 60",
                "text pass;pass;pass;pass;pass;pass;pass;pass;pass;pass;pass;pass -> 12", "errorPosition -> -1");
        for (String[] each : CONTINUED) {
            String signs = each[1].replace("#", "0123456789");
            sentences.due("ends at <" + each[0] + ">", isWhole(each[0]) ? -1 : each[0].length(), () -> errorOf(each[0]));
            for (int code = 0; code < 256; code++) {
                String text = each[0] + (char) code;
                int due = signs.indexOf(code) < 0 ? each[0].length() : isWhole(text) ? -1 : text.length();
                sentences.due("error of <" + each[0] + "> and the sign " + code, due, () -> errorOf(text));
            }
            for (char sign : "\u0100\u0130\u0161\u0660\u0966\uff10\uff1b\uffff".toCharArray()) {
                sentences.due("<" + each[0] + "> and the sign " + (int) sign, each[0].length(), () -> errorOf(each[0] + sign));
            }
        }
    }

    private static boolean isWhole(String text) {
        return text.matches("(.*;)?(pass|tug # ##?|ferry # ##? ##?|lock # ##? #|fog # ##? #|move # #[+-])".replace("#", "[0-9]"));
    }

    private static int errorOf(String text) {
        FerryDraughts x = new FerryDraughts();
        Views.run(x, text);
        return x.errorPosition();
    }

    private static void textsAreWholeOrNothing() {
        String sentence = "A text is carried out if each order can be, one after the other; else nothing of it is, and the first order that cannot be decides what is thrown.";
        test(sentence, "text ferry 0 3 0;ferry 1 4 11;lock 0 5 1;move 0 0+ -> 4", "ferryText 0 -> A0@5/0",
                "account 0 -> 1", "account 5 -> 1", "account 13 -> 1");
        test(sentence, "text ferry 0 3 0;move 0 0+;move 0 0+ -> REFUSED", "reasons -> 6:2 4:0 11:1", "account 0 -> 0",
                "turn -> 0", "account 13 -> 0");
        test(sentence, "ferry 0 3 0", "text tug 0 9;fog 0 1 1;lock 1 1 1;move 0 0+;pass;tug 0 9 -> REFUSED",
                "reasons -> 6:5 2:9", "accounts -> 1 1 0 0 0 0 0 0 0 0 0 1 0 1");
        test(sentence, "text tug 0 1;tug 2 1;tug 0 1 -> ARGUMENT", "reasons -> ", "account 3 -> 0");
        test(sentence, "text tug 0 1;tug 0 1;tug 2 1 -> REFUSED", "reasons -> 6:1 2:1", "account 3 -> 0");
        test(sentence, "text tug 0 1;tug 0 1;tug 2 x -> ARGUMENT", "errorPosition -> 22", "reasons -> ");
        test(sentence, "text pass;pass;tug 0 12 -> ARGUMENT", "errorPosition -> -1", "account 8 -> 0",
                "account 13 -> 0", "undo -> STATE");
        test(sentence, "text move 0 0+;ferry 0 3 3 -> ARGUMENT", "text ferry 0 3 3;move 0 0+ -> 2");
    }

    private static void reasons() {
        test("1, there are 8 ferries, or 4 tugs on the river: this number", "ferry 0 0 0", "ferry 0 1 1", "ferry 0 2 2",
                "ferry 0 3 3", "ferry 0 4 4", "ferry 0 5 5", "ferry 0 6 6", "ferry 0 7 7", "ferry 0 8 8 -> REFUSED",
                "refusal 0 false -> 1", "refusal 0 true -> 8", "refusal 1 false -> NONE", "tug 0 8", "tug 0 9",
                "tug 0 10", "tug 0 11", "tug 0 11 -> REFUSED", "refusal 0 false -> 1", "refusal 0 true -> 4",
                "refusal 1 true -> NONE");
        test("2, a place is not free: the place, that on the river 0 first", "ferry 0 0 11", "ferry 1 0 5 -> REFUSED",
                "reasons -> 2:0", "ferry 1 5 11 -> REFUSED", "reasons -> 2:11", "ferry 1 0 11 -> REFUSED",
                "reasons -> 2:0", "tug 1 11 -> REFUSED", "reasons -> 2:11", "ferry 1 11 0 -> 1");
        test("3, it is so already: the number that is told last", "lock 0 7 0 -> REFUSED", "reasons -> 3:0",
                "lock 0 7 2", "lock 0 7 2 -> REFUSED", "reasons -> 3:2", "fog 1 0 0 -> REFUSED", "reasons -> 3:0",
                "fog 1 7 4", "fog 1 7 4 -> REFUSED", "reasons -> 3:4");
        test("4, the ferry cannot move so: its number; behind it stands the reason of moves", "ferry 0 0 0",
                "ferry 0 5 5", "move 1 0 false -> REFUSED", "reasons -> 4:1 13:5", "move 0 0 false -> REFUSED",
                "reasons -> 4:0 13:0", "refusal 2 false -> NONE");
        test("5, a ferry of the side can move: the lowest such ferry", "ferry 0 11 11", "ferry 1 5 5", "ferry 0 10 9",
                "pass -> REFUSED", "reasons -> 5:2", "ferry 0 0 0", "pass -> REFUSED", "reasons -> 5:2", "fog 1 9 1",
                "pass -> REFUSED", "reasons -> 5:3", "fog 0 0 1", "pass -> REFUSED", "reasons -> 5:3");
        test("6, an order of a text is refused: its number, from 0; behind it stands the reason for which it is refused, with what stands behind that.",
                "ferry 0 11 3", "text move 0 0+ -> REFUSED", "reasons -> 6:0 4:0 14:11", "text tug 0 1;pass -> REFUSED",
                "reasons -> 6:1 5:0", "text lock 0 1 1;lock 0 1 1 -> REFUSED", "reasons -> 6:1 3:1",
                "refusal 2 false -> NONE", "text tug 0 1;tug 0 2;tug 0 3;tug 0 4;tug 0 5 -> REFUSED",
                "reasons -> 6:4 1:4", "refusal 3 true -> NONE");
        test("6, an order of a text is refused: its number, from 0; behind it stands the reason for which it is refused, with what stands behind that.",
                "text pass;pass;pass;pass;pass;pass;pass;pass;pass;lock 0 1 0 -> REFUSED", "reasons -> 6:9 3:0");
    }

    private static void reasonsInTheirOrder() {
        String sentence = "Something is refused for the first that applies of the reasons that its method names, in the order in which it names them, with a detail";
        test(sentence, "ferry 0 0 0", "ferry 0 1 1", "ferry 0 2 2", "ferry 0 3 3", "ferry 0 4 4", "ferry 0 5 5",
                "ferry 0 6 6", "ferry 0 7 7", "ferry 0 7 7 -> REFUSED", "reasons -> 1:8");
        test(sentence, "tug 1 0", "tug 1 1", "tug 1 2", "tug 1 3", "tug 1 3 -> REFUSED", "reasons -> 1:4", "tug 0 0",
                "tug 0 0 -> REFUSED", "reasons -> 2:0");
        test(sentence, "ferry 0 8 9", "ferry 0 8 9 -> REFUSED", "reasons -> 2:8");
    }

    private static void undo() {
        String changes = "The changes are the successful calls of ferry, tug, lock, fog, move, pass and run.";
        test(changes, "ferry 0 3 3", "account 13 -> 1", "tug 0 0", "account 13 -> 2", "lock 0 5 1", "account 13 -> 3",
                "fog 0 0 1", "account 13 -> 4", "move 0 0 true", "account 13 -> 5", "pass", "account 13 -> 6",
                "text tug 0 9;pass -> REFUSED", "account 13 -> 6", "text tug 0 9;tug 0 8 -> 2", "account 13 -> 7",
                "tug 0 9 -> REFUSED", "text x -> ARGUMENT", "append p", "save", "riverLine 0", "account 13 -> 7");
        String latest = "The latest 8 can be undone; restore forgets all.";
        test(latest, "undo -> STATE", "tug 0 0", "tug 0 1", "tug 0 2", "tug 0 3", "tug 1 0", "tug 1 1", "tug 1 2",
                "account 13 -> 7", "tug 1 3", "account 13 -> 8", "lock 0 11 1", "account 13 -> 8", "undo -> 7",
                "river 0 -> ****........", "times 3 undo -> 4", "river 1 -> *...........", "times 4 undo -> 0",
                "river 0 -> *...........", "undo -> STATE", "account 3 -> 1", "account 13 -> 0");
        test(latest, "times 20 pass", "account 13 -> 8", "undo -> 7", "account 8 -> 19", "times 7 undo -> 0",
                "account 8 -> 12", "undo -> STATE", "tug 0 0", "undo -> 0", "account 8 -> 12", "account 3 -> 0",
                "undo -> STATE");
        test(latest, "times 9 pass", "times 4 undo -> 4", "account 8 -> 5", "times 6 pass", "account 13 -> 8",
                "account 8 -> 11", "times 8 undo -> 0", "account 8 -> 3", "undo -> STATE");
        test(latest, "lock 0 0 1", "lock 0 1 1", "lock 0 2 1", "lock 0 3 1", "lock 0 4 1", "lock 0 5 1", "lock 0 6 1",
                "lock 0 7 1", "lock 0 7 1 -> REFUSED", "fog 0 0 0 -> REFUSED", "text tug 0 1;tug 0 1 -> REFUSED",
                "move 0 0 true -> INDEX", "account 13 -> 8", "undo -> 7", "locks 0 -> 111111100000",
                "times 7 undo -> 0", "locks 0 -> 000000000000");
        test(latest, "tug 0 0", "save", "tug 0 1", "tug 0 2", "account 13 -> 3", "restore", "account 13 -> 0",
                "undo -> STATE", "tug 0 3", "undo -> 0", "river 0 -> *...........", "undo -> STATE");
        test(latest, "save", "times 12 pass", "restore", "times 8 pass", "account 13 -> 8", "times 8 undo -> 0",
                "account 8 -> 0", "undo -> STATE");
    }

    private static void exceptions() {
        String first = "If several exceptions apply, the one that is documented first is thrown.";
        test(first, "lock 2 0 4 -> INDEX", "lock 0 12 -1 -> INDEX", "fog -1 0 5 -> INDEX", "fog 0 -1 -1 -> INDEX",
                "ferryOf 0 6 -> INDEX", "ferryOf -1 -1 -> INDEX", "refusal -1 false -> ARGUMENT", "best 3 -> ARGUMENT",
                "best -1 -> ARGUMENT", "why 0 2 true true -> INDEX", "toLock 0 0 -> INDEX", "run -> ARGUMENT");
        test(first, "ferry 0 0 0", "ferry 0 1 1", "ferry 0 2 2", "ferry 0 3 3", "ferry 0 4 4", "ferry 0 5 5",
                "ferry 0 6 6", "ferry 0 7 7", "ferry 2 0 0 -> ARGUMENT", "ferry 0 0 12 -> ARGUMENT",
                "ferry 0 -1 0 -> ARGUMENT", "reasons -> ", "toLock 0 2 -> INDEX", "gain 0 2 true -> INDEX",
                "gain 0 -1 false -> INDEX", "to 0 2 false -> INDEX", "why 0 2 true false -> INDEX",
                "move 0 2 false -> INDEX", "move 8 0 false -> INDEX", "reasons -> ");
        test(first, "tug 0 0", "tug 0 1", "tug 0 2", "tug 0 3", "tug 0 12 -> INDEX", "tug 2 0 -> INDEX", "reasons -> ");
        String unchanged = "A method that throws an exception leaves the state unchanged unless its documentation says otherwise.";
        test(unchanged, "ferry 0 3 0", "ferry 1 4 11", "tug 0 9", "tug 1 8", "lock 0 5 2", "fog 0 3 2", "fog 1 10 2",
                "save", "riverLine 0", "append p", "ferry 0 3 1 -> REFUSED", "ferry 2 0 0 -> ARGUMENT",
                "tug 0 9 -> REFUSED", "tug 2 0 -> INDEX", "lock 0 5 2 -> REFUSED", "lock 0 5 4 -> ARGUMENT",
                "lock 0 12 1 -> INDEX", "fog 0 3 2 -> REFUSED", "fog 0 3 5 -> ARGUMENT", "fog 2 3 1 -> INDEX",
                "move 0 0 true -> REFUSED", "move 1 1 false -> REFUSED", "move 2 0 true -> INDEX", "pass -> REFUSED",
                "ferryOf 2 0 -> INDEX", "ferryOf 0 6 -> ARGUMENT", "at 0 12 -> INDEX", "lockAt 2 0 -> INDEX",
                "isFog 0 -1 -> INDEX");
        test(unchanged, "ferry 0 3 0", "ferry 1 4 11", "tug 0 9", "lock 0 5 2", "fog 0 3 2", "ferryLine 1", "append p",
                "would 2 0 true -> INDEX", "why 0 2 true true -> INDEX", "why 0 1 true true -> NONE",
                "to 0 0 true -> NONE", "to 2 0 true -> INDEX", "moves 2 true -> ARGUMENT",
                "captures -1 false -> ARGUMENT", "isThreatened 2 -> INDEX", "gain 0 0 true -> NONE",
                "gain 2 0 true -> INDEX", "best 3 -> ARGUMENT", "toLock 0 1 -> NONE", "toLock 0 2 -> INDEX",
                "boldest 2 -> NONE", "farthest -1 -> NONE", "riverLine 2 -> INDEX", "ferryLine 2 -> INDEX",
                "character 7 -> INDEX", "line -> b1@4/11", "run -> ARGUMENT");
        test(unchanged, "refusal 0 true -> NONE", "refusal -1 true -> ARGUMENT", "account 14 -> ARGUMENT",
                "meanJumps -> ARITHMETIC", "kingShare -> ARITHMETIC", "undo -> STATE", "restore -> STATE",
                "best 0 -> NONE", "boldest 0 -> NONE", "farthest 0 -> NONE");
    }

    private static void whatStays() {
        String sentence = "The input, the line, the error position and the reason are neither undone nor saved, and stay.";
        test(sentence, "tug 0 0", "save", "tug 0 0 -> REFUSED", "text px -> ARGUMENT", "riverLine 0", "type pas",
                "undo", "reasons -> 2:0", "errorPosition -> 1", "line -> *...........", "account 12 -> 3", "restore",
                "reasons -> 2:0", "errorPosition -> 1", "line -> *...........", "account 12 -> 3", "append s -> 4",
                "run -> 1", "account 12 -> 0", "undo", "account 12 -> 0", "errorPosition -> -1");
        test(sentence, "type pass", "save", "run -> 1", "restore", "account 12 -> 0", "errorPosition -> -1",
                "run -> ARGUMENT", "errorPosition -> 0", "restore", "errorPosition -> 0");
        test(sentence, "tug 0 0", "tug 0 0 -> REFUSED", "undo", "tug 0 0", "reasons -> 2:0", "pass", "lock 0 3 1",
                "reasons -> 2:0", "riverLine 0", "save", "ferry 0 1 1", "ferryLine 0", "line -> a0@1/1", "restore",
                "line -> a0@1/1");
    }

    private static void inDoubt() {
        test("The fog of no width can be told at another place, which is a change.", "fog 0 0 0 -> REFUSED",
                "fog 0 11 0 -> 0", "account 13 -> 1", "fog 0 11 0 -> REFUSED", "reasons -> 3:0",
                "fogs 0 -> ............", "fog 0 0 0 -> 0", "account 13 -> 2", "undo", "fog 0 11 0 -> REFUSED", "undo",
                "fog 0 0 0 -> REFUSED");
        String gain = "What the other side could get is looked at behind the fog that drifted, and is 0 if it could get nothing.";
        test(gain, "ferry 0 3 0", "ferry 1 6 9", "gain 0 1 true -> 0", "gain 0 0 true -> 0", "tug 0 5", "fog 0 6 1",
                "move 0 1 true", "turn -> 1");
        test(gain, "ferry 0 3 0", "ferry 1 5 9", "gain 0 0 true -> -1", "gain 0 1 true -> 0", "fog 0 4 1",
                "gain 0 0 true -> 0", "fog 0 5 1", "gain 0 0 true -> -1", "fog 0 3 1", "gain 0 1 true -> 0",
                "would 0 0 true -> 0", "gain 0 0 true -> NONE");
        test(gain, "ferry 0 11 0", "ferry 1 0 5", "gain 0 1 true -> 0", "undo", "gain 0 1 true -> 0", "account 7 -> 0");
        test(gain, "ferry 0 4 0", "ferry 1 5 9", "ferry 1 7 7", "lock 0 6 1", "gain 0 0 true -> -1", "fog 0 6 1",
                "gain 0 0 true -> 1", "lock 0 6 0", "gain 0 0 true -> 1", "fog 0 6 0", "gain 0 0 true -> 0");
    }

    private static void inDoubtOfTurns() {
        String king = "Whether a ferry could jump again is looked at as it is then, as a king, too; any ferry of the side can move in a turn that stays.";
        test(king, "ferry 0 2 4", "ferry 1 3 11", "ferry 1 10 3", "lock 0 4 1", "move 0 0 true -> 1", "turn -> 0",
                "would 0 1 false -> 3", "move 0 1 false -> 1", "turn -> 1");
        test(king, "ferry 0 2 4", "ferry 1 3 11", "ferry 1 10 3", "move 0 0 true -> 1", "turn -> 1");
        test(king, "ferry 0 0 0", "ferry 1 1 11", "ferry 1 3 10", "ferry 0 9 5", "move 0 0 true -> 1", "turn -> 0",
                "move 2 1 true -> 0", "turn -> 1");
        test(king, "ferry 0 0 0", "ferry 1 1 11", "ferry 1 3 10", "move 0 0 true -> 1", "pass -> REFUSED",
                "reasons -> 5:0", "move 1 0 false -> REFUSED", "reasons -> 4:1 11:0");
        test(king, "ferry 0 0 0", "ferry 0 5 5", "ferry 1 1 11", "ferry 1 3 10", "ferry 1 7 6", "move 0 0 true -> 1",
                "turn -> 0", "move 1 1 true -> 1", "turn -> 1");
    }

    private static void inDoubtOfLocks() {
        String sentence = "The lock on which a ferry is does not count for the next one, and ferries and tugs on the way to it do not matter.";
        test(sentence, "ferry 0 0 11", "ferry 1 11 0", "lock 0 0 1", "lock 0 11 1", "lock 1 0 1", "toLock 0 0 -> 11",
                "toLock 1 0 -> 11", "toLock 1 1 -> NONE", "toLock 0 1 -> NONE", "tug 0 1", "ferry 0 2 2",
                "ferry 1 10 3", "toLock 0 0 -> 11", "toLock 1 0 -> 11", "toLock 2 0 -> 9");
        test(sentence, "ferry 0 4 0", "lock 0 5 2", "move 0 0 true", "lockAt 0 5 -> 1", "toLock 0 0 -> NONE",
                "lock 0 0 1", "toLock 0 0 -> 5", "lock 0 9 1", "toLock 0 0 -> 4", "lock 0 1 1", "toLock 0 0 -> 4",
                "lock 0 2 1", "toLock 0 0 -> 3", "lock 0 4 1", "toLock 0 0 -> 1", "toLock 0 1 -> NONE", "lock 0 4 0",
                "lock 0 6 1", "toLock 0 0 -> 1");
    }
}
