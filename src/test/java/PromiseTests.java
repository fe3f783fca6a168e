import java.util.NoSuchElementException;

/** For each promise of the document its ordinary inputs, the edges that it names, and wrong inputs. */
public final class PromiseTests {
    private static final Class<?> INDEX = IndexOutOfBoundsException.class;
    private static final Class<?> ARGUMENT = IllegalArgumentException.class;
    private static final Class<?> REFUSED = UnsupportedOperationException.class;
    private static final Class<?> NONE = NoSuchElementException.class;
    private static final Class<?> STATE = IllegalStateException.class;
    private static final Class<?> ARITHMETIC = ArithmeticException.class;
    private static final int LOW = Integer.MIN_VALUE;
    private static final int HIGH = Integer.MAX_VALUE;

    private static final Checks checks = new Checks();

    public static void main(String[] args) {
        promise1NewObject();
        promise2Ferry();
        promise3Tug();
        promise4Lock();
        promise5Fog();
        promise5FogDrifts();
        promise6MoveSteps();
        promise6MoveJumps();
        promise6MoveNumbers();
        promise6MoveLocks();
        promise6MoveTurnStays();
        promise6MoveRefused();
        promise7Pass();
        promise8FerryOf();
        promise9At();
        promise10LockAt();
        promise11IsFog();
        promise12Turn();
        promise13Would();
        promise14Why();
        promise15To();
        promise16Moves();
        promise17Captures();
        promise18IsThreatened();
        promise19Gain();
        promise20Best();
        promise20BestOfSeveral();
        promise21ToLock();
        promise22Boldest();
        promise23Farthest();
        promise24RiverLine();
        promise25FerryLine();
        promise26Character();
        promise27Append();
        promise28Run();
        promise28RunIsWholeOrNothing();
        promise29ErrorPosition();
        promise30Refusal();
        promise31Account();
        promise32IsWell();
        promise33MeanJumps();
        promise34KingShare();
        promise35Undo();
        promise36Save();
        promise37Restore();
        checks.closeWith("PromiseTests");
    }

    private static void due(String what, Object due, Checks.Call call) {
        checks.due(what, due, call);
    }

    private static FerryDraughts fresh() {
        return new FerryDraughts();
    }

    /** The line of a river as a text. */
    private static String river(FerryDraughts x, int river) {
        return Views.river(x, river);
    }

    private static String ferryText(FerryDraughts x, int ferry) {
        return Views.ferry(x, ferry);
    }

    private static Object run(FerryDraughts x, String text) {
        return Views.run(x, text);
    }

    private static String refusals(FerryDraughts x) {
        return Views.reasons(x);
    }

    private static String stateOf(FerryDraughts x) {
        return Views.state(x);
    }

    private static String accounts(FerryDraughts x) {
        return Views.accounts(x);
    }

    private static void promise1NewObject() {
        FerryDraughts x = fresh();
        due("1 river 0", "............", () -> river(x, 0));
        due("1 river 1", "............", () -> river(x, 1));
        due("1 turn", 0, x::turn);
        for (int what = 0; what < 14; what++) {
            int number = what;
            due("1 account " + what, 0, () -> x.account(number));
        }
        due("1 fog", false, () -> x.isFog(0, 0) || x.isFog(1, 0) || x.isFog(0, 11));
        due("1 refusal", NONE, () -> x.refusal(0, false));
        due("1 fog is told as from 0", REFUSED, () -> x.fog(1, 0, 0));
    }

    private static void promise2Ferry() {
        FerryDraughts x = fresh();
        due("2 first", 0, () -> x.ferry(0, 0, 11));
        due("2 second", 1, () -> x.ferry(1, 11, 0));
        due("2 side", ARGUMENT, () -> x.ferry(2, 5, 5));
        due("2 side below", ARGUMENT, () -> x.ferry(-1, 5, 5));
        due("2 place", ARGUMENT, () -> x.ferry(0, 12, 5));
        due("2 place below", ARGUMENT, () -> x.ferry(0, -1, 5));
        due("2 second place", ARGUMENT, () -> x.ferry(0, 5, 12));
        due("2 second place below", ARGUMENT, () -> x.ferry(0, 5, LOW));
        due("2 wrong ones keep no reason", "", () -> refusals(x));
        due("2 not free on river 0", REFUSED, () -> x.ferry(0, 0, 5));
        due("2 reason", "2:0", () -> refusals(x));
        due("2 not free on river 1", REFUSED, () -> x.ferry(0, 5, 11));
        due("2 reason of river 1", "2:11", () -> refusals(x));
        due("2 both not free", REFUSED, () -> x.ferry(0, 11, 11));
        due("2 river 0 is first", "2:11", () -> refusals(x));
        x.tug(0, 6);
        due("2 a tug is there", REFUSED, () -> x.ferry(0, 6, 0));
        due("2 reason of a tug", "2:6", () -> refusals(x));
        x.lock(0, 5, 2);
        due("2 on a lock", 2, () -> x.ferry(0, 5, 5));
        due("2 no king by that", "a0@0/11c0@5/5", () -> ferryText(x, 0) + ferryText(x, 2));
        due("2 lock is whole", 2, () -> x.lockAt(0, 5));
        for (int place = 1; place < 5; place++) {
            int at = place;
            due("2 next", place + 2, () -> x.ferry(1, at, at));
        }
        due("2 the last", 7, () -> x.ferry(0, 7, 7));
        due("2 nine", REFUSED, () -> x.ferry(0, 0, 0));
        due("2 reason of nine", "1:8", () -> refusals(x));
        due("2 wrong ahead of refused", ARGUMENT, () -> x.ferry(0, 0, 12));
    }

    private static void promise3Tug() {
        FerryDraughts x = fresh();
        due("3 first", 1, () -> x.tug(0, 0));
        due("3 second", 2, () -> x.tug(0, 11));
        due("3 other river", 1, () -> x.tug(1, 0));
        due("3 line", "*..........*", () -> river(x, 0));
        due("3 river", INDEX, () -> x.tug(2, 0));
        due("3 river below", INDEX, () -> x.tug(-1, 0));
        due("3 place", INDEX, () -> x.tug(0, 12));
        due("3 place below", INDEX, () -> x.tug(1, -1));
        due("3 taken", REFUSED, () -> x.tug(0, 11));
        due("3 reason", "2:11", () -> refusals(x));
        x.ferry(0, 4, 6);
        due("3 taken by a ferry", REFUSED, () -> x.tug(1, 6));
        due("3 reason of a ferry", "2:6", () -> refusals(x));
        due("3 free on this river", 3, () -> x.tug(0, 6));
        x.lock(0, 8, 1);
        due("3 on a lock", 4, () -> x.tug(0, 8));
        due("3 five", REFUSED, () -> x.tug(0, 0));
        due("3 reason of five", "1:4", () -> refusals(x));
        due("3 river 1 has room", 2, () -> x.tug(1, 1));
    }

    private static void promise4Lock() {
        FerryDraughts x = fresh();
        due("4 new", 0, () -> x.lock(0, 3, 2));
        due("4 again", 2, () -> x.lock(0, 3, 3));
        due("4 told", 3, () -> x.lockAt(0, 3));
        due("4 so already", REFUSED, () -> x.lock(0, 3, 3));
        due("4 reason", "3:3", () -> refusals(x));
        due("4 off", 3, () -> x.lock(0, 3, 0));
        due("4 off already", REFUSED, () -> x.lock(0, 3, 0));
        due("4 reason of none", "3:0", () -> refusals(x));
        due("4 river", INDEX, () -> x.lock(2, 0, 4));
        due("4 place", INDEX, () -> x.lock(0, 12, 1));
        due("4 place below", INDEX, () -> x.lock(0, -1, -1));
        due("4 uses", ARGUMENT, () -> x.lock(0, 0, 4));
        due("4 uses below", ARGUMENT, () -> x.lock(0, 0, -1));
        x.tug(1, 4);
        due("4 under a tug", 0, () -> x.lock(1, 4, 1));
        due("4 tug is seen", "....*.......", () -> river(x, 1));
    }

    private static void promise5Fog() {
        FerryDraughts x = fresh();
        due("5 new", 0, () -> x.fog(0, 10, 4));
        due("5 goes round", "true true false", () -> x.isFog(0, 11) + " " + x.isFog(0, 1) + " " + x.isFog(0, 2));
        due("5 so already", REFUSED, () -> x.fog(0, 10, 4));
        due("5 reason", "3:4", () -> refusals(x));
        due("5 other place", 4, () -> x.fog(0, 9, 4));
        due("5 other width", 4, () -> x.fog(0, 9, 0));
        due("5 no width at another place", 0, () -> x.fog(0, 8, 0));
        due("5 that is a change", 4, () -> x.account(13));
        due("5 no width so already", REFUSED, () -> x.fog(0, 8, 0));
        due("5 reason without width", "3:0", () -> refusals(x));
        due("5 river", INDEX, () -> x.fog(-1, 0, 9));
        due("5 river above", INDEX, () -> x.fog(2, 0, 1));
        due("5 place", INDEX, () -> x.fog(0, 12, 9));
        due("5 width", ARGUMENT, () -> x.fog(1, 0, 5));
        due("5 width below", ARGUMENT, () -> x.fog(1, 0, -1));
    }

    private static void promise5FogDrifts() {
        FerryDraughts x = fresh();
        x.fog(0, 11, 1);
        x.fog(1, 3, 0);
        x.pass();
        due("5 drifts behind 11", true, () -> x.isFog(0, 0) && !x.isFog(0, 11));
        due("5 without width it stays", REFUSED, () -> x.fog(1, 3, 0));
        x.ferry(1, 5, 5);
        x.move(0, 1, false);
        due("5 drifts by a move", true, () -> x.isFog(0, 1) && !x.isFog(0, 0));
        x.tug(0, 9);
        due("5 stays otherwise", true, () -> x.isFog(0, 1));
    }

    private static void promise6MoveSteps() {
        FerryDraughts x = fresh();
        x.ferry(0, 0, 10);
        x.ferry(1, 11, 1);
        due("6 step", 0, () -> x.move(0, 0, true));
        due("6 went", "a0@1/10", () -> ferryText(x, 0));
        due("6 step of side 1", 0, () -> x.move(1, 1, false));
        due("6 went too", "b1@11/0", () -> ferryText(x, 1));
        due("6 turn is back", 0, x::turn);
        due("6 to the last place", 0, () -> x.move(0, 1, true));
        due("6 lines", ".a.........b", () -> river(x, 0));
        due("6 line 1", "b..........a", () -> river(x, 1));
    }

    private static void promise6MoveJumps() {
        FerryDraughts x = fresh();
        x.ferry(0, 3, 0);
        x.ferry(1, 4, 8);
        x.tug(1, 1);
        due("6 over a tug", 0, () -> x.move(0, 1, true));
        due("6 tug went back", "*.a.....b...", () -> river(x, 1));
        due("6 turn changed", 1, x::turn);
        due("6 over a ferry", 1, () -> x.move(1, 0, false));
        due("6 gone from river 0", "..a.........", () -> river(x, 0));
        due("6 gone from river 1", "*.......a...", () -> river(x, 1));
        due("6 points", "0 1", () -> x.account(5) + " " + x.account(6));
        due("6 turn changed again", 0, x::turn);
    }

    private static void promise6MoveNumbers() {
        FerryDraughts x = fresh();
        x.ferry(1, 5, 3);
        x.ferry(1, 9, 9);
        x.ferry(0, 4, 6);
        x.ferry(1, 1, 1);
        x.lock(0, 6, 1);
        due("6 over the lowest", 1, () -> x.move(2, 0, true));
        due("6 numbers became less", ".c....B..a..", () -> river(x, 0));
        due("6 on river 1 too", ".c....B..a..", () -> river(x, 1));
        due("6 its jumps go along", 1, () -> x.ferryOf(1, 4));

        FerryDraughts y = fresh();
        y.ferry(0, 4, 4);
        y.ferry(1, 5, 8);
        y.ferry(0, 9, 9);
        due("6 over a later one", 1, () -> y.move(0, 0, true));
        due("6 the jumper keeps its number", "a0@6/4", () -> ferryText(y, 0));
        due("6 the last became less", "b0@9/9", () -> ferryText(y, 1));
        due("6 two are there", INDEX, () -> y.ferryOf(2, 0));
    }

    private static void promise6MoveLocks() {
        FerryDraughts x = fresh();
        x.ferry(0, 0, 0);
        x.ferry(1, 11, 11);
        x.lock(0, 1, 2);
        x.lock(1, 1, 1);
        x.lock(1, 10, 1);
        x.move(0, 0, true);
        due("6 a king", "A0@1/0", () -> ferryText(x, 0));
        due("6 a use less", 1, () -> x.lockAt(0, 1));
        x.move(1, 1, false);
        due("6 without uses it is gone", 0, () -> x.lockAt(1, 10));
        due("6 two kings made", 2, () -> x.account(10));
        x.move(0, 1, true);
        due("6 a king uses none", 1, () -> x.lockAt(1, 1));
        x.move(1, 1, true);
        due("6 a king goes back", "B1@11/11", () -> ferryText(x, 1));
        due("6 kings made stay two", 2, () -> x.account(10));
        x.ferry(0, 8, 3);
        x.move(2, 0, true);
        x.move(1, 0, false);
        due("6 two points for a king", 2, () -> x.move(2, 0, true));
    }

    private static void promise6MoveTurnStays() {
        FerryDraughts x = fresh();
        x.ferry(0, 0, 0);
        x.ferry(1, 1, 11);
        x.ferry(1, 3, 10);
        x.ferry(0, 9, 5);
        x.move(0, 0, true);
        due("6 turn stays", 0, x::turn);
        x.move(2, 1, true);
        due("6 any ferry of the side can move", 1, x::turn);

        FerryDraughts y = fresh();
        y.ferry(0, 0, 0);
        y.ferry(1, 1, 11);
        y.ferry(1, 3, 10);
        y.fog(0, 1, 1);
        y.move(0, 0, true);
        due("6 turn goes as fog drifted onto it", 1, y::turn);

        FerryDraughts z = fresh();
        z.ferry(0, 0, 4);
        z.ferry(1, 1, 11);
        z.ferry(1, 9, 5);
        z.move(0, 0, true);
        due("6 turn stays for the other river", 0, z::turn);

        FerryDraughts k = fresh();
        k.ferry(0, 2, 0);
        k.ferry(1, 3, 11);
        k.ferry(1, 10, 9);
        k.lock(0, 4, 1);
        k.move(0, 0, true);
        due("6 turn goes without a second jump", 1, k::turn);

        FerryDraughts b = fresh();
        b.ferry(0, 2, 4);
        b.ferry(1, 3, 11);
        b.ferry(1, 10, 3);
        b.lock(0, 4, 1);
        b.move(0, 0, true);
        due("6 turn stays as a king goes back", 0, b::turn);

        FerryDraughts h = fresh();
        h.ferry(1, 1, 11);
        h.ferry(1, 3, 10);
        h.ferry(0, 0, 0);
        h.move(2, 0, true);
        due("6 turn stays for one whose number became less", 0, h::turn);
        due("6 again", 1, () -> h.move(1, 0, true));
        due("6 then it goes", 1, h::turn);

        FerryDraughts t = fresh();
        t.ferry(0, 0, 0);
        t.tug(0, 1);
        t.ferry(1, 3, 11);
        t.move(0, 0, true);
        due("6 turn goes behind a tug", 1, t::turn);

        FerryDraughts s = fresh();
        s.ferry(0, 0, 0);
        s.ferry(1, 1, 11);
        s.tug(0, 3);
        s.move(0, 0, true);
        due("6 a tug does not keep the turn", 1, s::turn);
    }

    private static void promise6MoveRefused() {
        FerryDraughts x = fresh();
        x.ferry(0, 0, 0);
        x.ferry(1, 11, 11);
        due("6 ferry", INDEX, () -> x.move(2, 0, true));
        due("6 ferry below", INDEX, () -> x.move(-1, 0, true));
        due("6 river", INDEX, () -> x.move(0, 2, true));
        due("6 river below", INDEX, () -> x.move(0, LOW, true));
        due("6 not its turn", REFUSED, () -> x.move(1, 0, false));
        due("6 reason", "4:1 11:0", () -> refusals(x));
        due("6 not its way", REFUSED, () -> x.move(0, 0, false));
        due("6 reason of the way", "4:0 13:0", () -> refusals(x));
        x.undo();
        x.ferry(0, 4, 1);
        due("6 own side there", REFUSED, () -> x.move(0, 1, true));
        due("6 reason of the own side", "4:0 15:1", () -> refusals(x));
        due("6 not its way on river 1", REFUSED, () -> x.move(1, 1, false));
        due("6 reason of river 1", "4:1 13:1", () -> refusals(x));
        due("6 nothing changed", "2 0 0", () -> x.account(13) + " " + x.account(7) + " " + x.turn());
    }

    private static void promise7Pass() {
        FerryDraughts x = fresh();
        due("7 without ferries", 1, x::pass);
        due("7 back", 0, x::pass);
        x.ferry(0, 11, 11);
        due("7 none can move", 1, x::pass);
        x.pass();
        x.ferry(1, 5, 5);
        x.ferry(0, 3, 9);
        due("7 one can", REFUSED, x::pass);
        due("7 the lowest that can", "5:2", () -> refusals(x));
        x.fog(0, 3, 1);
        x.fog(1, 9, 1);
        due("7 held by fog", 1, x::pass);
        due("7 fog drifted", true, () -> x.isFog(0, 4) && x.isFog(1, 10));
        FerryDraughts y = fresh();
        y.ferry(0, 11, 10);
        due("7 one move is enough", REFUSED, y::pass);
        due("7 reason of one move", "5:0", () -> refusals(y));
        due("7 passes", 5, () -> x.account(8));
    }

    private static void promise8FerryOf() {
        FerryDraughts x = fresh();
        x.ferry(1, 7, 2);
        x.ferry(0, 6, 4);
        x.lock(0, 8, 1);
        due("8 side", 1, () -> x.ferryOf(0, 0));
        due("8 place on 0", 7, () -> x.ferryOf(0, 1));
        due("8 place on 1", 2, () -> x.ferryOf(0, 2));
        due("8 no king", 0, () -> x.ferryOf(0, 3));
        x.move(1, 0, true);
        due("8 all", "0 8 4 1 1 1", () -> x.ferryOf(0, 0) + " " + x.ferryOf(0, 1) + " " + x.ferryOf(0, 2) + " "
                + x.ferryOf(0, 3) + " " + x.ferryOf(0, 4) + " " + x.ferryOf(0, 5));
        due("8 ferry", INDEX, () -> x.ferryOf(1, 0));
        due("8 ferry ahead of what", INDEX, () -> x.ferryOf(-1, 6));
        due("8 what", ARGUMENT, () -> x.ferryOf(0, 6));
        due("8 what below", ARGUMENT, () -> x.ferryOf(0, -1));
        x.pass();
        x.tug(1, 5);
        x.move(0, 1, true);
        due("8 tugs are no ferries", "1 2", () -> x.ferryOf(0, 4) + " " + x.ferryOf(0, 5));
        x.pass();
        x.undo();
        x.undo();
        x.undo();
        x.ferry(1, 0, 0);
        due("8 a new one has none", "0 0 0", () -> x.ferryOf(1, 3) + " " + x.ferryOf(1, 4) + " " + x.ferryOf(1, 5));
    }

    private static void promise9At() {
        FerryDraughts x = fresh();
        x.ferry(0, 0, 11);
        x.tug(1, 5);
        due("9 ferry", 0, () -> x.at(0, 0));
        due("9 ferry on 1", 0, () -> x.at(1, 11));
        due("9 tug", 8, () -> x.at(1, 5));
        due("9 nobody", -1, () -> x.at(0, 5));
        due("9 river", INDEX, () -> x.at(2, 0));
        due("9 river below", INDEX, () -> x.at(-1, 0));
        due("9 place", INDEX, () -> x.at(0, 12));
        due("9 place below", INDEX, () -> x.at(1, -1));
        due("9 far", INDEX, () -> x.at(HIGH, HIGH));
    }

    private static void promise10LockAt() {
        FerryDraughts x = fresh();
        x.lock(1, 0, 3);
        due("10 uses", 3, () -> x.lockAt(1, 0));
        due("10 none", 0, () -> x.lockAt(0, 0));
        due("10 river", INDEX, () -> x.lockAt(2, 0));
        due("10 place", INDEX, () -> x.lockAt(0, 12));
        due("10 place below", INDEX, () -> x.lockAt(1, -12));
    }

    private static void promise11IsFog() {
        FerryDraughts x = fresh();
        x.fog(1, 4, 2);
        due("11 begin", true, () -> x.isFog(1, 4));
        due("11 next", true, () -> x.isFog(1, 5));
        due("11 behind", false, () -> x.isFog(1, 6));
        due("11 ahead", false, () -> x.isFog(1, 3));
        due("11 other river", false, () -> x.isFog(0, 4));
        due("11 river", INDEX, () -> x.isFog(2, 4));
        due("11 place", INDEX, () -> x.isFog(1, 12));
        due("11 place below", INDEX, () -> x.isFog(1, LOW));
    }

    private static void promise12Turn() {
        FerryDraughts x = fresh();
        due("12 first", 0, x::turn);
        x.pass();
        due("12 second", 1, x::turn);
        x.undo();
        due("12 undone", 0, x::turn);
    }

    private static void promise13Would() {
        FerryDraughts x = fresh();
        x.ferry(0, 3, 3);
        x.ferry(1, 4, 9);
        x.tug(1, 4);
        due("13 over a ferry", 3, () -> x.would(0, 0, true));
        due("13 over a tug", 2, () -> x.would(0, 1, true));
        due("13 not back", 0, () -> x.would(0, 0, false));
        due("13 not in turn", 0, () -> x.would(1, 1, false));
        x.ferry(0, 0, 0);
        due("13 step", 1, () -> x.would(2, 1, true));
        x.tug(1, 5);
        due("13 nothing", 0, () -> x.would(0, 1, true));
        due("13 ferry", INDEX, () -> x.would(3, 0, true));
        due("13 river", INDEX, () -> x.would(0, 2, true));
        due("13 river below", INDEX, () -> x.would(0, -1, true));
    }

    private static String why(FerryDraughts x, int ferry, int river, boolean isGreater) {
        return x.why(ferry, river, isGreater, false) + ":" + x.why(ferry, river, isGreater, true);
    }

    private static void promise14Why() {
        FerryDraughts x = fresh();
        x.ferry(0, 11, 3);
        x.ferry(0, 9, 4);
        x.ferry(1, 10, 7);
        due("14 turn", "11:0", () -> why(x, 2, 1, false));
        due("14 end", "14:11", () -> why(x, 0, 0, true));
        due("14 way", "13:11", () -> why(x, 0, 0, false));
        due("14 own side", "15:1", () -> why(x, 0, 1, true));
        due("14 not free beyond", "16:10", () -> why(x, 1, 0, true));
        due("14 it can", NONE, () -> x.why(1, 1, true, false));
        due("14 it can, detail", NONE, () -> x.why(1, 1, true, true));
        x.fog(0, 9, 4);
        due("14 fog ahead of all but the turn", "12:4", () -> why(x, 0, 0, false));
        due("14 turn ahead of fog", "11:0", () -> why(x, 2, 0, true));
        x.move(1, 1, true);
        due("14 turn of side 1", "11:1", () -> why(x, 0, 0, true));
        due("14 side 1 goes to lesser ones", "13:7", () -> why(x, 2, 1, true));
        x.tug(1, 6);
        due("14 a tug with a ferry beyond", "16:6", () -> why(x, 2, 1, false));
        due("14 ferry", INDEX, () -> x.why(3, 0, true, true));
        due("14 river", INDEX, () -> x.why(0, 2, true, false));
        FerryDraughts y = fresh();
        y.ferry(0, 10, 10);
        y.ferry(1, 11, 0);
        y.tug(1, 11);
        due("14 no place beyond a ferry", "16:11", () -> why(y, 0, 0, true));
        due("14 no place beyond a tug", "16:11", () -> why(y, 0, 1, true));
        y.undo();
        y.undo();
        y.lock(1, 11, 1);
        y.move(0, 1, true);
        y.pass();
        due("14 a king at the end", "14:11", () -> why(y, 0, 1, true));
        due("14 a king goes back", 1, () -> y.would(0, 0, false));
    }

    private static void promise15To() {
        FerryDraughts x = fresh();
        x.ferry(0, 3, 3);
        x.ferry(1, 4, 9);
        due("15 jump", 5, () -> x.to(0, 0, true));
        due("15 step", 4, () -> x.to(0, 1, true));
        due("15 cannot", NONE, () -> x.to(0, 1, false));
        x.tug(1, 4);
        x.tug(1, 5);
        due("15 cannot on this river", NONE, () -> x.to(0, 1, true));
        due("15 nor gains there", NONE, () -> x.gain(0, 1, true));
        due("15 can on the other", 5, () -> x.to(0, 0, true));
        x.undo();
        x.undo();
        due("15 not in turn", NONE, () -> x.to(1, 1, false));
        due("15 ferry", INDEX, () -> x.to(2, 1, false));
        due("15 river", INDEX, () -> x.to(0, -1, false));
        x.move(0, 1, true);
        due("15 jump of side 1", 2, () -> x.to(1, 0, false));
    }

    private static String both(FerryDraughts x, int side) {
        return x.moves(side, false) + "/" + x.moves(side, true) + " " + x.captures(side, false) + "/"
                + x.captures(side, true);
    }

    private static void promise16Moves() {
        FerryDraughts x = fresh();
        due("16 none", "0/0 0/0", () -> both(x, 0));
        x.ferry(0, 3, 3);
        x.ferry(0, 4, 0);
        x.tug(1, 1);
        due("16 own side, steps, a tug", "3/3 0/0", () -> both(x, 0));
        x.ferry(1, 5, 5);
        due("16 not over two", "1/1 0/0", () -> both(x, 1));
        due("16 a jump", "3/3 1/1", () -> both(x, 0));
        x.fog(1, 3, 1);
        due("16 without those in fog", "2/2 1/1", () -> both(x, 0));
        FerryDraughts y = fresh();
        y.ferry(1, 1, 2);
        y.tug(1, 1);
        due("16 to the place 0", "2/2 0/0", () -> both(y, 1));
        y.ferry(0, 10, 9);
        y.tug(1, 10);
        due("16 to the place 11", "2/2 0/0", () -> both(y, 0));
        due("16 side", ARGUMENT, () -> x.moves(2, false));
        due("16 side below", ARGUMENT, () -> x.moves(-1, true));
    }

    private static void promise17Captures() {
        FerryDraughts x = fresh();
        x.ferry(0, 3, 3);
        x.ferry(1, 4, 4);
        x.ferry(1, 8, 8);
        due("17 on both rivers", "2/2 2/2", () -> both(x, 0));
        due("17 of side 1", "4/4 2/2", () -> both(x, 1));
        x.tug(0, 5);
        due("17 not free beyond", "1/1 1/1", () -> both(x, 0));
        x.fog(1, 4, 1);
        due("17 fog holds who jumps only", "1/1 1/1", () -> both(x, 0));
        due("17 one in fog", "3/3 1/1", () -> both(x, 1));
        due("17 side", ARGUMENT, () -> x.captures(2, true));
        due("17 side below", ARGUMENT, () -> x.captures(LOW, false));
    }

    private static void promise18IsThreatened() {
        FerryDraughts x = fresh();
        x.ferry(0, 3, 0);
        x.ferry(1, 4, 7);
        due("18 of side 0", true, () -> x.isThreatened(0));
        due("18 of side 1", true, () -> x.isThreatened(1));
        x.tug(0, 2);
        due("18 not free beyond", false, () -> x.isThreatened(0));
        x.fog(0, 3, 1);
        due("18 the other in fog", false, () -> x.isThreatened(1));
        x.fog(0, 4, 1);
        due("18 itself in fog", true, () -> x.isThreatened(1));
        x.ferry(0, 9, 8);
        x.fog(0, 3, 1);
        due("18 not from behind", false, () -> x.isThreatened(1));
        due("18 ferry", INDEX, () -> x.isThreatened(3));
        due("18 ferry below", INDEX, () -> x.isThreatened(-1));
        FerryDraughts y = fresh();
        y.ferry(0, 0, 0);
        y.ferry(1, 1, 11);
        due("18 at an end of the river", false, () -> y.isThreatened(0));
        y.ferry(1, 5, 1);
        due("18 no place beyond", false, () -> y.isThreatened(0));
    }

    private static void promise19Gain() {
        FerryDraughts x = fresh();
        x.ferry(0, 3, 0);
        x.ferry(1, 4, 11);
        x.ferry(1, 6, 5);
        x.lock(0, 5, 1);
        due("19 a point, less two for a king", -1, () -> x.gain(0, 0, true));
        due("19 a step, less a point", -1, () -> x.gain(0, 1, true));
        due("19 nothing changed", "3 0 4", () -> x.account(0) + " " + x.turn() + " " + x.account(13));
        due("19 cannot", NONE, () -> x.gain(0, 0, false));
        due("19 not in turn", NONE, () -> x.gain(1, 0, false));
        due("19 ferry", INDEX, () -> x.gain(3, 0, false));
        due("19 river", INDEX, () -> x.gain(0, 2, true));
        x.fog(0, 5, 1);
        due("19 fog drifted to the other", 1, () -> x.gain(0, 0, true));
        x.fog(0, 6, 1);
        due("19 fog drifted away", -1, () -> x.gain(0, 0, true));
        FerryDraughts y = fresh();
        y.ferry(0, 0, 0);
        y.ferry(1, 8, 8);
        due("19 nothing to get", 0, () -> y.gain(0, 0, true));
    }

    private static String best(FerryDraughts x) {
        return x.best(0) + " " + x.best(1) + " " + x.best(2);
    }

    private static void promise20Best() {
        FerryDraughts x = fresh();
        due("20 no ferry", NONE, () -> x.best(0));
        due("20 what ahead", ARGUMENT, () -> x.best(3));
        due("20 what below", ARGUMENT, () -> x.best(-1));
        x.ferry(1, 11, 11);
        due("20 not in turn", NONE, () -> x.best(2));
        x.ferry(0, 0, 0);
        x.ferry(0, 2, 2);
        due("20 the lowest, river 0, to greater", "1 0 1", () -> best(x));
        x.ferry(1, 5, 3);
        due("20 the one that gains", "2 1 1", () -> best(x));
        FerryDraughts y = fresh();
        y.ferry(0, 4, 11);
        y.lock(0, 5, 1);
        y.move(0, 0, true);
        y.pass();
        due("20 a king to greater first", "0 0 1", () -> best(y));
        y.ferry(1, 4, 5);
        due("20 a king back", "0 0 0", () -> best(y));
    }

    private static void promise20BestOfSeveral() {
        FerryDraughts x = fresh();
        x.lock(0, 6, 1);
        x.ferry(1, 7, 11);
        x.pass();
        x.move(0, 0, false);
        x.ferry(0, 5, 0);
        x.ferry(0, 0, 5);
        x.ferry(1, 9, 6);
        x.tug(0, 4);
        x.tug(1, 4);
        due("20 two points", 2, () -> x.gain(1, 0, true));
        due("20 a point", 1, () -> x.gain(2, 1, true));
        due("20 the greater gain comes first", "1 0 1", () -> best(x));

        FerryDraughts y = fresh();
        y.ferry(0, 0, 5);
        y.ferry(0, 4, 0);
        y.lock(0, 5, 1);
        y.move(1, 0, true);
        y.pass();
        y.ferry(1, 6, 11);
        y.ferry(1, 11, 6);
        y.tug(0, 7);
        y.tug(1, 7);
        due("20 two points lost", -2, () -> y.gain(0, 0, true));
        due("20 a point lost", -1, () -> y.gain(1, 0, false));
        due("20 the lesser loss", "1 0 0", () -> best(y));
    }

    private static void promise21ToLock() {
        FerryDraughts x = fresh();
        x.ferry(0, 4, 4);
        x.ferry(1, 6, 6);
        due("21 none", NONE, () -> x.toLock(0, 0));
        x.lock(0, 4, 1);
        due("21 not the one under it", NONE, () -> x.toLock(0, 0));
        due("21 of side 1", 2, () -> x.toLock(1, 0));
        x.lock(0, 2, 1);
        due("21 the next", 2, () -> x.toLock(1, 0));
        due("21 not behind", NONE, () -> x.toLock(0, 0));
        x.lock(0, 11, 1);
        due("21 ferries do not matter", 7, () -> x.toLock(0, 0));
        due("21 other river", NONE, () -> x.toLock(0, 1));
        due("21 ferry", INDEX, () -> x.toLock(2, 0));
        due("21 river", INDEX, () -> x.toLock(0, 2));
        x.lock(1, 5, 1);
        x.move(0, 1, true);
        due("21 a king to either side", 2, () -> x.toLock(0, 0));
        x.lock(0, 5, 3);
        due("21 a king to the nearer", 1, () -> x.toLock(0, 0));
        x.ferry(0, 0, 0);
        x.lock(1, 11, 1);
        due("21 from its place on river 1", 11, () -> x.toLock(2, 1));
    }

    private static void promise22Boldest() {
        FerryDraughts x = fresh();
        due("22 none", NONE, () -> x.boldest(0));
        x.ferry(0, 11, 0);
        x.ferry(0, 8, 8);
        x.ferry(0, 0, 11);
        x.ferry(1, 1, 5);
        x.lock(1, 9, 1);
        due("22 the lowest", "0 1 2 3", () -> x.boldest(0) + " " + x.boldest(1) + " " + x.boldest(2) + " "
                + x.boldest(3));
        x.move(1, 1, true);
        due("22 a king ahead", "1 0 2 3", () -> x.boldest(0) + " " + x.boldest(1) + " " + x.boldest(2) + " "
                + x.boldest(3));
        x.move(3, 1, false);
        x.move(2, 0, true);
        due("22 the most first", "2 1 0", () -> x.boldest(0) + " " + x.boldest(1) + " " + x.boldest(2));
        due("22 no such place", NONE, () -> x.boldest(3));
        due("22 below", NONE, () -> x.boldest(-1));
    }

    private static void promise23Farthest() {
        FerryDraughts x = fresh();
        due("23 none", NONE, () -> x.farthest(0));
        x.ferry(0, 2, 3);
        x.ferry(1, 7, 10);
        x.ferry(1, 0, 11);
        x.ferry(0, 11, 1);
        due("23 order", "3 2 0 1", () -> x.farthest(0) + " " + x.farthest(1) + " " + x.farthest(2) + " "
                + x.farthest(3));
        FerryDraughts y = fresh();
        y.ferry(1, 1, 1);
        y.ferry(0, 11, 10);
        y.ferry(0, 10, 11);
        y.ferry(1, 0, 0);
        due("23 from both ends", "3 1 2 0", () -> y.farthest(0) + " " + y.farthest(1) + " " + y.farthest(2) + " "
                + y.farthest(3));
        due("23 no such place", NONE, () -> x.farthest(4));
        due("23 below", NONE, () -> x.farthest(LOW));
    }

    private static void promise24RiverLine() {
        FerryDraughts x = fresh();
        due("24 length", 12, () -> x.riverLine(1));
        x.ferry(0, 0, 1);
        x.ferry(1, 11, 4);
        x.tug(0, 6);
        x.lock(0, 1, 1);
        x.lock(0, 2, 1);
        x.lock(0, 6, 1);
        x.lock(0, 11, 1);
        due("24 line", "a==...*....b", () -> river(x, 0));
        x.move(0, 0, true);
        due("24 king", ".A=...*....b", () -> river(x, 0));
        due("24 river", INDEX, () -> x.riverLine(2));
        due("24 river below", INDEX, () -> x.riverLine(-1));
        due("24 line stays", 'A', () -> x.character(1));
    }

    private static void promise25FerryLine() {
        FerryDraughts x = fresh();
        x.ferry(0, 0, 0);
        x.ferry(1, 4, 10);
        x.ferry(1, 11, 9);
        due("25 length", 7, () -> x.ferryLine(1));
        due("25 line", "b1@4/10", () -> ferryText(x, 1));
        due("25 other", "c1@11/9", () -> ferryText(x, 2));
        x.lock(0, 1, 1);
        x.move(0, 0, true);
        due("25 king", "A0@1/0", () -> ferryText(x, 0));
        due("25 ferry", INDEX, () -> x.ferryLine(3));
        due("25 ferry below", INDEX, () -> x.ferryLine(-1));
    }

    private static void promise26Character() {
        FerryDraughts x = fresh();
        due("26 empty", INDEX, () -> x.character(0));
        x.riverLine(0);
        due("26 last", '.', () -> x.character(11));
        due("26 behind", INDEX, () -> x.character(12));
        due("26 below", INDEX, () -> x.character(-1));
        x.ferry(0, 1, 2);
        x.ferryLine(0);
        due("26 in place of the line before", INDEX, () -> x.character(6));
        due("26 new", '2', () -> x.character(5));
        x.undo();
        due("26 not undone", 'a', () -> x.character(0));
    }

    private static void promise27Append() {
        FerryDraughts x = fresh();
        for (int i = 1; i <= 60; i++) {
            int count = i;
            due("27 count", count, () -> x.append((char) (count * 1000)));
        }
        due("27 full", STATE, () -> x.append('a'));
        due("27 full is kept", 60, () -> x.account(12));
        due("27 run empties", ARGUMENT, x::run);
        due("27 empty", 0, () -> x.account(12));
        due("27 again", 1, () -> x.append('p'));
    }

    private static void promise28Run() {
        FerryDraughts x = fresh();
        due("28 two ferries", 3, () -> run(x, "ferry 0 3 00;ferry 1 4 11;lock 0 5 1"));
        due("28 are there", "a0@3/0b1@4/11", () -> ferryText(x, 0) + ferryText(x, 1));
        due("28 rest", 3, () -> run(x, "tug 1 09;fog 1 10 4;move 0 0+"));
        due("28 state", "A0@5/0", () -> ferryText(x, 0));
        due("28 tug", 8, () -> x.at(1, 9));
        due("28 fog drifted", true, () -> x.isFog(1, 11) && !x.isFog(1, 10));
        due("28 a run is one change", 2, () -> x.account(13));
        due("28 pass", 1, () -> run(x, "pass"));
        due("28 back", 1, () -> run(x, "move 0 0-"));
        due("28 went back", "A0@4/0", () -> ferryText(x, 0));
        x.undo();
        x.undo();
        due("28 undone at once", 1, x::undo);
        due("28 as before", "a0@3/0b1@4/11", () -> ferryText(x, 0) + ferryText(x, 1));
        due("28 empty", ARGUMENT, () -> run(x, ""));
        due("28 twelve passes", 12, () -> run(fresh(), "pass;pass;pass;pass;pass;pass;pass;pass;pass;pass;pass;pass"));
        due("28 a semicolon more", ARGUMENT,
                () -> run(fresh(), "pass;pass;pass;pass;pass;pass;pass;pass;pass;pass;pass;pass;"));
    }

    private static void promise28RunIsWholeOrNothing() {
        FerryDraughts x = fresh();
        x.ferry(0, 3, 0);
        String before = stateOf(x);
        due("28 side", ARGUMENT, () -> run(x, "tug 0 1;ferry 2 0 1"));
        due("28 no error", -1, x::errorPosition);
        due("28 nothing is carried out", before, () -> stateOf(x));
        due("28 place", ARGUMENT, () -> run(x, "ferry 1 12 5"));
        due("28 river", ARGUMENT, () -> run(x, "tug 2 5"));
        due("28 uses", ARGUMENT, () -> run(x, "lock 0 5 4"));
        due("28 width", ARGUMENT, () -> run(x, "fog 0 5 9"));
        due("28 no ferry", ARGUMENT, () -> run(x, "move 1 0+"));
        due("28 keeps no reason", "", () -> refusals(x));
        due("28 refused", REFUSED, () -> run(x, "tug 0 1;move 0 0+;move 0 0+"));
        due("28 reasons", "6:2 4:0 11:1", () -> refusals(x));
        due("28 nothing, too", before, () -> stateOf(x));
        due("28 the first decides: refused", REFUSED, () -> run(x, "pass;ferry 2 0 1"));
        due("28 reason of pass", "6:0 5:0", () -> refusals(x));
        due("28 the first decides: wrong", ARGUMENT, () -> run(x, "ferry 2 0 1;pass"));
        due("28 reason stays", "6:0 5:0", () -> refusals(x));
        due("28 no change", 1, () -> x.account(13));
        due("28 a ferry put in the text moves", 2, () -> run(x, "ferry 0 7 7;move 1 1+"));
    }

    private static Object errorOf(String text) {
        FerryDraughts x = fresh();
        due("29 " + text, ARGUMENT, () -> run(x, text));
        return x.errorPosition();
    }

    private static void promise29ErrorPosition() {
        due("29 at first", -1, () -> fresh().errorPosition());
        due("29 empty", 0, () -> errorOf(""));
        due("29 no word", 0, () -> errorOf("x"));
        due("29 letter by letter", 1, () -> errorOf("fx"));
        due("29 fo", 2, () -> errorOf("foo"));
        due("29 fe", 2, () -> errorOf("feg"));
        due("29 ends too early", 3, () -> errorOf("fer"));
        due("29 no blank", 5, () -> errorOf("ferry0 1 2"));
        due("29 two blanks", 6, () -> errorOf("ferry  0 1 2"));
        due("29 a side has one digit", 7, () -> errorOf("ferry 00 1 2"));
        due("29 place ends too early", 9, () -> errorOf("ferry 0 1"));
        due("29 three digits", 12, () -> errorOf("ferry 0 1 123"));
        due("29 three digits first", 10, () -> errorOf("ferry 0 123 1"));
        due("29 uses have one digit", 10, () -> errorOf("lock 0 1 10"));
        due("29 no way", 8, () -> errorOf("move 0 0"));
        due("29 a blank ahead of the way", 8, () -> errorOf("move 0 0 +"));
        due("29 something behind", 9, () -> errorOf("move 0 0+0"));
        due("29 behind a semicolon", 5, () -> errorOf("pass;"));
        due("29 a blank behind a semicolon", 5, () -> errorOf("pass; pass"));
        due("29 two semicolons", 5, () -> errorOf("pass;;pass"));
        due("29 capital", 0, () -> errorOf("Pass"));
        due("29 behind pass", 4, () -> errorOf("pass 0"));
        due("29 second order", 12, () -> errorOf("tug 0 1;pass0"));
        due("29 another digit", 4, () -> errorOf("tug \u0661 1"));
        due("29 shape signs are none", 6, () -> errorOf("ferry # @ @"));
        due("29 a shape sign is none", 8, () -> errorOf("move 0 0%"));
        FerryDraughts x = fresh();
        run(x, "fer");
        x.append('q');
        due("29 of the latest run", 3, x::errorPosition);
        x.save();
        x.restore();
        due("29 stays", 3, x::errorPosition);
        x.append('p');
        run(x, "");
        due("29 new", 0, x::errorPosition);
        run(x, "pass");
        due("29 none", -1, x::errorPosition);
    }

    private static void promise30Refusal() {
        FerryDraughts x = fresh();
        due("30 nothing", NONE, () -> x.refusal(0, true));
        due("30 depth ahead", ARGUMENT, () -> x.refusal(-1, true));
        x.ferry(0, 3, 3);
        x.ferry(1, 9, 9);
        run(x, "tug 0 11;move 0 0-");
        due("30 three", "6:1 4:0 13:3", () -> refusals(x));
        due("30 too deep", NONE, () -> x.refusal(3, false));
        due("30 far too deep", NONE, () -> x.refusal(HIGH, true));
        due("30 below", ARGUMENT, () -> x.refusal(LOW, true));
        Checks.answerOf(() -> x.tug(0, 3));
        due("30 one", "2:3", () -> refusals(x));
        due("30 nothing behind", NONE, () -> x.refusal(1, true));
        x.undo();
        due("30 not undone", "2:3", () -> refusals(x));
        x.save();
        Checks.answerOf(() -> x.move(0, 0, false));
        x.restore();
        due("30 not restored", "4:0 13:3", () -> refusals(x));
        Checks.answerOf(() -> x.why(0, 0, false, false));
        Checks.answerOf(() -> x.to(0, 0, false));
        x.move(0, 0, true);
        due("30 stays", "4:0 13:3", () -> refusals(x));
        run(x, "tug 0 4");
        due("30 of an order", "6:0 2:4", () -> refusals(x));
    }

    private static void promise31Account() {
        FerryDraughts y = fresh();
        y.tug(0, 0);
        y.tug(0, 1);
        y.tug(1, 11);
        y.lock(0, 0, 1);
        y.lock(1, 0, 3);
        y.lock(1, 11, 2);
        due("31 tugs of both rivers", 3, () -> y.account(3));
        due("31 locks of both rivers", 3, () -> y.account(4));
        FerryDraughts x = fresh();
        due("31 below", ARGUMENT, () -> x.account(-1));
        due("31 above", ARGUMENT, () -> x.account(14));
        x.ferry(0, 3, 0);
        x.ferry(1, 4, 11);
        x.ferry(1, 10, 10);
        x.tug(0, 11);
        x.tug(1, 5);
        x.lock(0, 5, 1);
        x.lock(0, 8, 3);
        x.lock(1, 8, 2);
        due("31 ahead", "3 1 0 2 3 0 0 0 0 0 0 3 0 8", () -> accounts(x));
        x.move(0, 0, true);
        x.append('z');
        due("31 behind", "2 1 1 2 2 1 0 1 0 1 1 3 1 8", () -> accounts(x));
        x.fog(0, 10, 1);
        x.fog(1, 10, 1);
        x.pass();
        due("31 passed", "2 1 1 2 2 1 0 1 1 1 1 3 1 8", () -> accounts(x));
    }

    private static void promise32IsWell() {
        FerryDraughts x = fresh();
        due("32 empty", true, x::isWell);
        x.ferry(0, 3, 0);
        x.ferry(1, 4, 11);
        x.ferry(1, 6, 5);
        due("32 put", true, x::isWell);
        x.move(0, 0, true);
        due("32 jumped", true, x::isWell);
        x.undo();
        due("32 undone", true, x::isWell);
        x.save();
        x.move(0, 0, true);
        x.restore();
        due("32 restored", true, x::isWell);
    }

    private static void promise33MeanJumps() {
        FerryDraughts x = fresh();
        due("33 none", ARITHMETIC, x::meanJumps);
        x.ferry(0, 3, 0);
        due("33 zero", 0.0, x::meanJumps);
        x.ferry(1, 4, 11);
        x.ferry(1, 9, 9);
        x.ferry(1, 11, 8);
        x.move(0, 0, true);
        due("33 a third", 1.0 / 3.0, x::meanJumps);
    }

    private static void promise34KingShare() {
        FerryDraughts x = fresh();
        due("34 none", ARITHMETIC, x::kingShare);
        x.ferry(0, 3, 0);
        due("34 zero", 0.0f, x::kingShare);
        x.lock(0, 4, 1);
        x.ferry(1, 7, 9);
        x.ferry(1, 11, 8);
        x.move(0, 0, true);
        due("34 a third", 1.0f / 3.0f, x::kingShare);
    }

    private static void change(FerryDraughts x, int number) {
        switch (number) {
            case 0: x.ferry(0, 3, 0); break;
            case 1: x.tug(1, 1); break;
            case 2: x.lock(0, 5, 1); break;
            case 3: x.fog(1, 11, 1); break;
            case 4: x.ferry(1, 4, 9); break;
            case 5: x.move(0, 0, true); break;
            case 6: x.pass(); break;
            case 7: run(x, "tug 0 9;move 0 1+"); break;
            default: x.pass();
        }
    }

    private static FerryDraughts changed(int count) {
        FerryDraughts x = fresh();
        for (int number = 0; number < count; number++) {
            change(x, number);
        }
        return x;
    }

    private static void promise35Undo() {
        due("35 none", STATE, () -> fresh().undo());
        for (int undone = 1; undone <= 8; undone++) {
            FerryDraughts x = changed(9);
            for (int left = 7; left >= 8 - undone; left--) {
                due("35 left", left, x::undo);
            }
            String state = stateOf(changed(9 - undone));
            due("35 state after " + undone, state, () -> stateOf(x));
        }
        FerryDraughts x = changed(9);
        for (int i = 0; i < 8; i++) {
            x.undo();
        }
        due("35 eight at most", STATE, x::undo);
        Checks.answerOf(() -> x.move(0, 0, false));
        due("35 what is refused is no change", STATE, x::undo);
        x.tug(0, 0);
        due("35 again", 0, x::undo);
    }

    private static void promise36Save() {
        FerryDraughts x = fresh();
        due("36 none", 0, x::save);
        x.ferry(0, 3, 0);
        x.ferry(1, 5, 5);
        due("36 ferries", 2, x::save);
        due("36 no change", 2, () -> x.account(13));
        x.ferry(1, 6, 6);
        x.restore();
        due("36 in place of the earlier one", 2, () -> x.account(0));
    }

    private static void promise37Restore() {
        FerryDraughts x = fresh();
        due("37 no snapshot", STATE, x::restore);
        x.ferry(0, 3, 0);
        x.ferry(1, 4, 9);
        x.lock(0, 5, 1);
        x.fog(0, 9, 2);
        String before = stateOf(x);
        x.save();
        x.append('p');
        x.move(0, 0, true);
        due("37 ferries", 2, x::restore);
        due("37 input stays", 1, () -> x.account(12));
        due("37 as it was", before, () -> stateOf(x));
        due("37 nothing to undo", STATE, x::undo);
        x.move(0, 0, true);
        x.pass();
        due("37 the snapshot stays", 2, x::restore);
        due("37 as it was again", before, () -> stateOf(x));
    }
}
