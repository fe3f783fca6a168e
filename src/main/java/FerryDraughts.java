import java.util.NoSuchElementException;

/** Draughts of ferries on two rivers, as DOC.md promises it. */
public final class FerryDraughts {
    private static final int SIDES = 2;
    private static final int RIVERS = 2;
    private static final int PLACES = 12;
    private static final int SPOTS = RIVERS * PLACES;
    private static final int MOST_FERRIES = 8;
    private static final int MOST_TUGS = 4;
    private static final int MOST_USES = 3;
    private static final int MOST_FOG = 4;
    private static final int MOST_CHANGES = 8;

    private static final int NOBODY = -1;
    private static final int TUG = 8;

    private static final int GREATER = 1;
    private static final int LESSER = -1;
    private static final int MOVES_OF_FERRY = 4;

    // The numbers of a ferry, in the order in which ferryOf tells them.
    private static final int SIDE = 0;
    private static final int PLACE = 1;
    private static final int KING = 3;
    private static final int JUMPED = 4;
    private static final int MOVED = 5;
    private static final int NUMBERS = 6;

    // The totals of a game.
    private static final int POINTS = 0;
    private static final int MOVES = 2;
    private static final int PASSES = 3;
    private static final int JUMPS = 4;
    private static final int KINGS_MADE = 5;
    private static final int FERRIES_PUT = 6;
    private static final int FERRIES = 7;
    private static final int TURN = 8;
    private static final int TOTALS = 9;

    // The areas in the row of numbers that holds a game.
    private static final int FERRY_AREA = 0;
    private static final int WHO_AREA = FERRY_AREA + MOST_FERRIES * NUMBERS;
    private static final int LOCK_AREA = WHO_AREA + SPOTS;
    private static final int FOG_BEGIN_AREA = LOCK_AREA + SPOTS;
    private static final int FOG_WIDTH_AREA = FOG_BEGIN_AREA + RIVERS;
    private static final int TOTAL_AREA = FOG_WIDTH_AREA + RIVERS;
    private static final int CELLS = TOTAL_AREA + TOTALS;

    // What comes of a try to move: what the ferry would do, or the reason of moves for which it cannot.
    private static final int NOTHING = 0;
    private static final int STEP = 1;
    private static final int OVER_TUG = 2;
    private static final int OVER_FERRY = 3;
    private static final int NOT_ITS_TURN = 11;
    private static final int IN_FOG = 12;
    private static final int NOT_ITS_WAY = 13;
    private static final int RIVER_ENDS = 14;
    private static final int OWN_SIDE_THERE = 15;
    private static final int NOT_FREE_BEYOND = 16;

    // The reasons.
    private static final int ALL_THERE = 1;
    private static final int NOT_FREE = 2;
    private static final int SO_ALREADY = 3;
    private static final int CANNOT_MOVE_SO = 4;
    private static final int CAN_MOVE = 5;
    private static final int ORDER_REFUSED = 6;
    private static final int DEEPEST_REASON = 3;

    // The words of orders, each a change.
    private static final int FERRY_WORD = 0;
    private static final int TUG_WORD = 1;
    private static final int LOCK_WORD = 2;
    private static final int FOG_WORD = 3;
    private static final int MOVE_WORD = 4;
    private static final int PASS_WORD = 5;
    private static final int WORDS = 6;

    // What speaks against a change, told by the exception that is due for it.
    private static final int NO_OBJECTION = 0;
    private static final int NOT_THERE = 1;
    private static final int NOT_RIGHT = 2;
    private static final int REFUSED = 3;

    private static final int MOST_INPUT = 60;
    private static final int NO_ERROR = -1;

    private final Rivers rivers = new Rivers();
    private final Game game = new Game(rivers);
    private final Rivers trialRivers = new Rivers();
    private final Game trialGame = new Game(trialRivers);
    private final Reasons reasons = new Reasons();
    private final Desk desk = new Desk(rivers, game, reasons);
    private final Desk trialDesk = new Desk(trialRivers, trialGame, reasons);
    private final History history = new History();
    private final Rivers snapshot = new Rivers();
    private boolean hasSnapshot;
    private final Text text = new Text();
    private final Line line = new Line();

    public FerryDraughts() {
    }

    // Ferries, tugs, locks and fog.

    public int ferry(int side, int first, int second)
            throws IllegalArgumentException, UnsupportedOperationException {
        needNone(desk.objectionToFerry(side, first, second));
        history.keep(rivers);
        return rivers.addFerry(side, first, second);
    }

    public int tug(int river, int place) throws IndexOutOfBoundsException, UnsupportedOperationException {
        needNone(desk.objectionToTug(river, place));
        history.keep(rivers);
        return rivers.addTug(river, place);
    }

    public int lock(int river, int place, int uses)
            throws IndexOutOfBoundsException, IllegalArgumentException, UnsupportedOperationException {
        needNone(desk.objectionToLock(river, place, uses));
        history.keep(rivers);
        return rivers.tellUses(river, place, uses);
    }

    public int fog(int river, int place, int width)
            throws IndexOutOfBoundsException, IllegalArgumentException, UnsupportedOperationException {
        needNone(desk.objectionToFog(river, place, width));
        history.keep(rivers);
        return rivers.tellFog(river, place, width);
    }

    public int move(int ferry, int river, boolean isGreater)
            throws IndexOutOfBoundsException, UnsupportedOperationException {
        int step = stepTo(isGreater);
        needNone(desk.objectionToMove(ferry, river, step));
        history.keep(rivers);
        return game.makeMove(ferry, river, step);
    }

    public int pass() throws UnsupportedOperationException {
        needNone(desk.objectionToPass());
        history.keep(rivers);
        return game.passTurn();
    }

    public int ferryOf(int ferry, int what) throws IndexOutOfBoundsException, IllegalArgumentException {
        needFerry(ferry);
        if (what < 0 || what >= NUMBERS) {
            throw new IllegalArgumentException();
        }
        return rivers.number(ferry, what);
    }

    public int at(int river, int place) throws IndexOutOfBoundsException {
        needSpot(river, place);
        return rivers.whoIsAt(river, place);
    }

    public int lockAt(int river, int place) throws IndexOutOfBoundsException {
        needSpot(river, place);
        return rivers.usesAt(river, place);
    }

    public boolean isFog(int river, int place) throws IndexOutOfBoundsException {
        needSpot(river, place);
        return rivers.liesInFog(river, place);
    }

    // Moves and captures.

    public int turn() {
        return rivers.total(TURN);
    }

    public int would(int ferry, int river, boolean isGreater) throws IndexOutOfBoundsException {
        needFerryAndRiver(ferry, river);
        int outcome = game.outcomeNow(ferry, river, stepTo(isGreater));
        return isMove(outcome) ? outcome : NOTHING;
    }

    public int why(int ferry, int river, boolean isGreater, boolean isDetail)
            throws IndexOutOfBoundsException, NoSuchElementException {
        needFerryAndRiver(ferry, river);
        int step = stepTo(isGreater);
        int outcome = game.outcomeNow(ferry, river, step);
        if (isMove(outcome)) {
            throw new NoSuchElementException();
        }
        return isDetail ? game.detailOf(outcome, ferry, river, step) : outcome;
    }

    public int to(int ferry, int river, boolean isGreater) throws IndexOutOfBoundsException, NoSuchElementException {
        needFerryAndRiver(ferry, river);
        int step = stepTo(isGreater);
        if (!isMove(game.outcomeNow(ferry, river, step))) {
            throw new NoSuchElementException();
        }
        return game.goalOf(ferry, river, step);
    }

    public int moves(int side, boolean isAgain) throws IllegalArgumentException {
        needSide(side);
        return isAgain ? game.movesByPlace(side) : game.movesByFerry(side);
    }

    public int captures(int side, boolean isAgain) throws IllegalArgumentException {
        needSide(side);
        return isAgain ? game.capturesByJumped(side) : game.capturesByJumper(side);
    }

    public boolean isThreatened(int ferry) throws IndexOutOfBoundsException {
        needFerry(ferry);
        return game.jumpsOver(ferry) > 0;
    }

    public int gain(int ferry, int river, boolean isGreater) throws IndexOutOfBoundsException, NoSuchElementException {
        needFerryAndRiver(ferry, river);
        int step = stepTo(isGreater);
        if (!isMove(game.outcomeNow(ferry, river, step))) {
            throw new NoSuchElementException();
        }
        return gainBy(ferry, river, step);
    }

    public int best(int what) throws IllegalArgumentException, NoSuchElementException {
        if (what < 0 || what > 2) {
            throw new IllegalArgumentException();
        }
        int best = -1;
        int most = 0;
        for (int i = 0; i < MOVES_OF_FERRY * rivers.total(FERRIES); i++) {
            int ferry = numberOfMove(i, 0);
            int river = numberOfMove(i, 1);
            int step = stepTo(numberOfMove(i, 2) == 1);
            if (isMove(game.outcomeNow(ferry, river, step))) {
                int gained = gainBy(ferry, river, step);
                if (best < 0 || gained > most) {
                    best = i;
                    most = gained;
                }
            }
        }
        if (best < 0) {
            throw new NoSuchElementException();
        }
        return numberOfMove(best, what);
    }

    public int toLock(int ferry, int river) throws IndexOutOfBoundsException, NoSuchElementException {
        needFerryAndRiver(ferry, river);
        int way = game.wayToLock(ferry, river);
        if (way == 0) {
            throw new NoSuchElementException();
        }
        return way;
    }

    // Orders, lines, texts, accounts, undo and snapshot.

    public int boldest(int place) throws NoSuchElementException {
        for (int ferry = 0; ferry < rivers.total(FERRIES); ferry++) {
            if (game.bolderThan(ferry) == place) {
                return ferry;
            }
        }
        throw new NoSuchElementException();
    }

    public int farthest(int place) throws NoSuchElementException {
        for (int ferry = 0; ferry < rivers.total(FERRIES); ferry++) {
            if (game.fartherThan(ferry) == place) {
                return ferry;
            }
        }
        throw new NoSuchElementException();
    }

    public int riverLine(int river) throws IndexOutOfBoundsException {
        if (!isRiver(river)) {
            throw new IndexOutOfBoundsException();
        }
        return line.writeRiver(rivers, river);
    }

    public int ferryLine(int ferry) throws IndexOutOfBoundsException {
        needFerry(ferry);
        return line.writeFerry(rivers, ferry);
    }

    public char character(int index) throws IndexOutOfBoundsException {
        if (!line.has(index)) {
            throw new IndexOutOfBoundsException();
        }
        return line.signAt(index);
    }

    public int append(char c) throws IllegalStateException {
        if (text.length == MOST_INPUT) {
            throw new IllegalStateException();
        }
        return text.add(c);
    }

    public int run() throws IllegalArgumentException, UnsupportedOperationException {
        boolean isText = text.readOrders();
        text.length = 0;
        if (!isText) {
            throw new IllegalArgumentException();
        }
        trialRivers.take(rivers);
        for (int order = 0; order < text.orderCount; order++) {
            int word = text.orderAt(order, 0);
            int first = text.orderAt(order, 1);
            int second = text.orderAt(order, 2);
            int third = text.orderAt(order, 3);
            int objection = trialDesk.objectionTo(word, first, second, third);
            if (objection == REFUSED) {
                reasons.putAhead(ORDER_REFUSED, order);
                throw new UnsupportedOperationException();
            }
            if (objection != NO_OBJECTION) {
                throw new IllegalArgumentException();
            }
            trialDesk.carryOut(word, first, second, third);
        }
        history.keep(rivers);
        rivers.take(trialRivers);
        return text.orderCount;
    }

    public int errorPosition() {
        return text.error;
    }

    public int refusal(int depth, boolean isDetail) throws IllegalArgumentException, NoSuchElementException {
        if (depth < 0) {
            throw new IllegalArgumentException();
        }
        if (depth >= reasons.count) {
            throw new NoSuchElementException();
        }
        return isDetail ? reasons.detailAt(depth) : reasons.reasonAt(depth);
    }

    public int account(int what) throws IllegalArgumentException {
        switch (what) {
            case 0: return rivers.total(FERRIES);
            case 1: return rivers.ferriesOf(0);
            case 2: return rivers.sumOf(KING);
            case 3: return rivers.tugsOn(0) + rivers.tugsOn(1);
            case 4: return rivers.locksOn(0) + rivers.locksOn(1);
            case 5: return rivers.total(POINTS);
            case 6: return rivers.total(POINTS + 1);
            case 7: return rivers.total(MOVES);
            case 8: return rivers.total(PASSES);
            case 9: return rivers.total(JUMPS);
            case 10: return rivers.total(KINGS_MADE);
            case 11: return rivers.total(FERRIES_PUT);
            case 12: return text.length;
            case 13: return history.count;
            default: throw new IllegalArgumentException();
        }
    }

    public boolean isWell() {
        return game.isToldAlike(0) && game.isToldAlike(1) && rivers.hasFerriesInPlace()
                && rivers.total(FERRIES_PUT) == rivers.total(FERRIES) + rivers.total(JUMPS);
    }

    public double meanJumps() throws ArithmeticException {
        int count = rivers.total(FERRIES);
        if (count == 0) {
            throw new ArithmeticException();
        }
        return (double) rivers.sumOf(JUMPED) / (double) count;
    }

    public float kingShare() throws ArithmeticException {
        int count = rivers.total(FERRIES);
        if (count == 0) {
            throw new ArithmeticException();
        }
        return (float) rivers.sumOf(KING) / (float) count;
    }

    public int undo() throws IllegalStateException {
        if (history.count == 0) {
            throw new IllegalStateException();
        }
        history.putBack(rivers);
        return history.count;
    }

    public int save() {
        snapshot.take(rivers);
        hasSnapshot = true;
        return rivers.total(FERRIES);
    }

    public int restore() throws IllegalStateException {
        if (!hasSnapshot) {
            throw new IllegalStateException();
        }
        rivers.take(snapshot);
        history.count = 0;
        return rivers.total(FERRIES);
    }

    private int gainBy(int ferry, int river, int step) {
        int otherSide = 1 - rivers.number(ferry, SIDE);
        trialRivers.take(rivers);
        int points = trialGame.makeMove(ferry, river, step);
        return points - trialGame.mostPoints(otherSide);
    }

    /** The ferry, the river or the way of a move, the moves told in the order in which best prefers them. */
    private static int numberOfMove(int move, int what) {
        switch (what) {
            case 0: return move / MOVES_OF_FERRY;
            case 1: return move / 2 % RIVERS;
            default: return 1 - move % 2;
        }
    }

    private static void needNone(int objection) {
        if (objection == NOT_THERE) {
            throw new IndexOutOfBoundsException();
        }
        if (objection == NOT_RIGHT) {
            throw new IllegalArgumentException();
        }
        if (objection == REFUSED) {
            throw new UnsupportedOperationException();
        }
    }

    private void needFerry(int ferry) {
        if (!rivers.isFerry(ferry)) {
            throw new IndexOutOfBoundsException();
        }
    }

    private void needFerryAndRiver(int ferry, int river) {
        if (!rivers.isFerry(ferry) || !isRiver(river)) {
            throw new IndexOutOfBoundsException();
        }
    }

    private static void needSpot(int river, int place) {
        if (!isRiver(river) || !isPlace(place)) {
            throw new IndexOutOfBoundsException();
        }
    }

    private static void needSide(int side) {
        if (!isSide(side)) {
            throw new IllegalArgumentException();
        }
    }

    private static boolean isSide(int side) {
        return side >= 0 && side < SIDES;
    }

    private static boolean isRiver(int river) {
        return river >= 0 && river < RIVERS;
    }

    private static boolean isPlace(int place) {
        return place >= 0 && place < PLACES;
    }

    private static boolean isMove(int outcome) {
        return outcome == STEP || outcome == OVER_TUG || outcome == OVER_FERRY;
    }

    private static int stepTo(boolean isGreater) {
        return isGreater ? GREATER : LESSER;
    }

    /** All that changes can change, in one row of numbers, so that it can be kept and put back whole. */
    private static final class Rivers {
        private final int[] cells = new int[CELLS];

        Rivers() {
            for (int i = WHO_AREA; i < LOCK_AREA; i++) {
                setCell(i, NOBODY);
            }
        }

        private int cell(int index) {
            return index >= 0 && index < cells.length ? cells[index] : 0;
        }

        private void setCell(int index, int value) {
            if (index >= 0 && index < cells.length) {
                cells[index] = value;
            }
        }

        void take(Rivers other) {
            other.copyTo(cells, 0);
        }

        void copyTo(int[] row, int start) {
            if (start >= 0 && start <= row.length - cells.length) {
                System.arraycopy(cells, 0, row, start, cells.length);
            }
        }

        void copyFrom(int[] row, int start) {
            if (start >= 0 && start <= row.length - cells.length) {
                System.arraycopy(row, start, cells, 0, cells.length);
            }
        }

        int total(int what) {
            return cell(TOTAL_AREA + what);
        }

        void addToTotal(int what, int more) {
            setCell(TOTAL_AREA + what, cell(TOTAL_AREA + what) + more);
        }

        void changeTurn() {
            setCell(TOTAL_AREA + TURN, 1 - cell(TOTAL_AREA + TURN));
        }

        boolean isFerry(int ferry) {
            return ferry >= 0 && ferry < cell(TOTAL_AREA + FERRIES);
        }

        int number(int ferry, int what) {
            int index = FERRY_AREA + ferry * NUMBERS + what;
            return index >= 0 && index < cells.length ? cells[index] : 0;
        }

        private void setNumber(int ferry, int what, int value) {
            setCell(FERRY_AREA + ferry * NUMBERS + what, value);
        }

        void addToNumber(int ferry, int what, int more) {
            setNumber(ferry, what, number(ferry, what) + more);
        }

        /** Makes a ferry that comes to a lock a king. */
        void crownAtLock(int ferry, int river) {
            int place = number(ferry, PLACE + river);
            int uses = usesAt(river, place);
            if (uses > 0 && number(ferry, KING) == 0) {
                setNumber(ferry, KING, 1);
                setUses(river, place, uses - 1);
                addToTotal(KINGS_MADE, 1);
            }
        }

        int sumOf(int what) {
            int sum = 0;
            for (int ferry = 0; ferry < total(FERRIES); ferry++) {
                sum += number(ferry, what);
            }
            return sum;
        }

        int ferriesOf(int side) {
            int count = 0;
            for (int ferry = 0; ferry < total(FERRIES); ferry++) {
                if (number(ferry, SIDE) == side) {
                    count++;
                }
            }
            return count;
        }

        int whoIsAt(int river, int place) {
            return isPlace(place) ? cell(WHO_AREA + river * PLACES + place) : NOBODY;
        }

        private void setWho(int river, int place, int who) {
            if (isPlace(place)) {
                setCell(WHO_AREA + river * PLACES + place, who);
            }
        }

        boolean isFree(int river, int place) {
            return isPlace(place) && cell(WHO_AREA + river * PLACES + place) == NOBODY;
        }

        int addTug(int river, int place) {
            setWho(river, place, TUG);
            return tugsOn(river);
        }

        void shiftTug(int river, int from, int place) {
            setWho(river, from, NOBODY);
            setWho(river, place, TUG);
        }

        int tugsOn(int river) {
            int count = 0;
            for (int place = 0; place < PLACES; place++) {
                if (whoIsAt(river, place) == TUG) {
                    count++;
                }
            }
            return count;
        }

        int usesAt(int river, int place) {
            return isPlace(place) ? cell(LOCK_AREA + river * PLACES + place) : 0;
        }

        private void setUses(int river, int place, int uses) {
            if (isPlace(place)) {
                setCell(LOCK_AREA + river * PLACES + place, uses);
            }
        }

        /** Tells the uses of a lock; those before. */
        int tellUses(int river, int place, int uses) {
            int before = usesAt(river, place);
            setUses(river, place, uses);
            return before;
        }

        int locksOn(int river) {
            int count = 0;
            for (int place = 0; place < PLACES; place++) {
                if (usesAt(river, place) > 0) {
                    count++;
                }
            }
            return count;
        }

        int fogBegin(int river) {
            return cell(FOG_BEGIN_AREA + river);
        }

        int fogWidth(int river) {
            return cell(FOG_WIDTH_AREA + river);
        }

        /** Tells the fog of a river; the width before. */
        int tellFog(int river, int begin, int width) {
            int before = fogWidth(river);
            setCell(FOG_BEGIN_AREA + river, begin);
            setCell(FOG_WIDTH_AREA + river, width);
            return before;
        }

        boolean liesInFog(int river, int place) {
            int behindBegin = (place - cell(FOG_BEGIN_AREA + river) + PLACES) % PLACES;
            return behindBegin < cell(FOG_WIDTH_AREA + river);
        }

        void driftFog() {
            for (int river = 0; river < RIVERS; river++) {
                if (fogWidth(river) > 0) {
                    setCell(FOG_BEGIN_AREA + river, (fogBegin(river) + 1) % PLACES);
                }
            }
        }

        int addFerry(int side, int first, int second) {
            int ferry = total(FERRIES);
            setNumber(ferry, SIDE, side);
            setNumber(ferry, PLACE, first);
            setNumber(ferry, PLACE + 1, second);
            setNumber(ferry, KING, 0);
            setNumber(ferry, JUMPED, 0);
            setNumber(ferry, MOVED, 0);
            setWho(0, first, ferry);
            setWho(1, second, ferry);
            addToTotal(FERRIES, 1);
            addToTotal(FERRIES_PUT, 1);
            return ferry;
        }

        void shiftFerry(int ferry, int river, int place) {
            setWho(river, number(ferry, PLACE + river), NOBODY);
            setWho(river, place, ferry);
            setNumber(ferry, PLACE + river, place);
        }

        void removeFerry(int gone) {
            setWho(0, number(gone, PLACE), NOBODY);
            setWho(1, number(gone, PLACE + 1), NOBODY);
            for (int later = gone + 1; later < total(FERRIES); later++) {
                for (int what = 0; what < NUMBERS; what++) {
                    setNumber(later - 1, what, number(later, what));
                }
                setWho(0, number(later, PLACE), later - 1);
                setWho(1, number(later, PLACE + 1), later - 1);
            }
            addToTotal(FERRIES, -1);
        }

        boolean hasFerriesInPlace() {
            for (int ferry = 0; ferry < total(FERRIES); ferry++) {
                if (whoIsAt(0, number(ferry, PLACE)) != ferry || whoIsAt(1, number(ferry, PLACE + 1)) != ferry) {
                    return false;
                }
            }
            return true;
        }
    }

    /** Moves on the rivers; a step is 1 to the greater place and -1 to the lesser one. */
    private static final class Game {
        private final Rivers rivers;

        Game(Rivers rivers) {
            this.rivers = rivers;
        }

        /** What comes of a try to move if the side of the ferry has the turn. */
        int outcomeOf(int ferry, int river, int step) {
            int place = rivers.number(ferry, PLACE + river);
            if (rivers.liesInFog(river, place)) {
                return IN_FOG;
            }
            if (!goesBy(ferry, step)) {
                return NOT_ITS_WAY;
            }
            int next = place + step;
            if (!isPlace(next)) {
                return RIVER_ENDS;
            }
            int who = rivers.whoIsAt(river, next);
            if (who == NOBODY) {
                return STEP;
            }
            if (who != TUG && rivers.number(who, SIDE) == rivers.number(ferry, SIDE)) {
                return OWN_SIDE_THERE;
            }
            if (!rivers.isFree(river, next + step)) {
                return NOT_FREE_BEYOND;
            }
            return who == TUG ? OVER_TUG : OVER_FERRY;
        }

        int outcomeNow(int ferry, int river, int step) {
            boolean hasTurn = rivers.number(ferry, SIDE) == rivers.total(TURN);
            return hasTurn ? outcomeOf(ferry, river, step) : NOT_ITS_TURN;
        }

        /** The detail of the reason of moves that came of a try to move. */
        int detailOf(int reason, int ferry, int river, int step) {
            int place = rivers.number(ferry, PLACE + river);
            switch (reason) {
                case NOT_ITS_TURN: return rivers.total(TURN);
                case IN_FOG: return rivers.fogWidth(river);
                case OWN_SIDE_THERE: return rivers.whoIsAt(river, place + step);
                case NOT_FREE_BEYOND: return place + step;
                default: return place;
            }
        }

        private boolean goesBy(int ferry, int step) {
            int way = rivers.number(ferry, SIDE) == 0 ? GREATER : LESSER;
            return step == way || rivers.number(ferry, KING) == 1;
        }

        int goalOf(int ferry, int river, int step) {
            int next = rivers.number(ferry, PLACE + river) + step;
            return rivers.isFree(river, next) ? next : next + step;
        }

        /** Makes a move that can be made; the points that the side gets. */
        int makeMove(int ferry, int river, int step) {
            int from = rivers.number(ferry, PLACE + river);
            int over = rivers.whoIsAt(river, from + step);
            rivers.shiftFerry(ferry, river, goalOf(ferry, river, step));
            rivers.crownAtLock(ferry, river);
            rivers.addToNumber(ferry, MOVED, 1);
            rivers.addToTotal(MOVES, 1);
            rivers.driftFog();
            int points = 0;
            boolean isTurnKept = false;
            if (over == TUG) {
                rivers.shiftTug(river, from + step, from);
            } else if (over != NOBODY) {
                points = worthOf(over);
                rivers.addToTotal(POINTS + rivers.number(ferry, SIDE), points);
                isTurnKept = jumpsBy(takeJumped(ferry, over)) > 0;
            }
            if (!isTurnKept) {
                rivers.changeTurn();
            }
            return points;
        }

        private int worthOf(int ferry) {
            return 1 + rivers.number(ferry, KING);
        }

        /** Takes a ferry that was jumped over; the number that the jumping one has then. */
        private int takeJumped(int ferry, int jumped) {
            rivers.addToNumber(ferry, JUMPED, 1);
            rivers.addToTotal(JUMPS, 1);
            rivers.removeFerry(jumped);
            return jumped < ferry ? ferry - 1 : ferry;
        }

        int passTurn() {
            rivers.addToTotal(PASSES, 1);
            rivers.driftFog();
            rivers.changeTurn();
            return rivers.total(TURN);
        }

        /** How many moves a ferry would have if its side had the turn. */
        int movesOf(int ferry) {
            int count = 0;
            for (int river = 0; river < RIVERS; river++) {
                for (int step = LESSER; step <= GREATER; step += 2) {
                    if (isMove(outcomeOf(ferry, river, step))) {
                        count++;
                    }
                }
            }
            return count;
        }

        /** How many of these are jumps over ferries. */
        private int jumpsBy(int ferry) {
            int count = 0;
            for (int river = 0; river < RIVERS; river++) {
                for (int step = LESSER; step <= GREATER; step += 2) {
                    if (outcomeOf(ferry, river, step) == OVER_FERRY) {
                        count++;
                    }
                }
            }
            return count;
        }

        int movesByFerry(int side) {
            int count = 0;
            for (int ferry = 0; ferry < rivers.total(FERRIES); ferry++) {
                if (rivers.number(ferry, SIDE) == side) {
                    count += movesOf(ferry);
                }
            }
            return count;
        }

        int movesByPlace(int side) {
            int count = 0;
            for (int river = 0; river < RIVERS; river++) {
                for (int place = 0; place < PLACES; place++) {
                    if (rivers.isFree(river, place)) {
                        count += comersTo(side, river, place, GREATER) + comersTo(side, river, place, LESSER);
                    }
                }
            }
            return count;
        }

        /** How many ferries of a side would come to a free place by a step or a jump that way: 0 or 1. */
        private int comersTo(int side, int river, int place, int step) {
            int next = place - step;
            int who = rivers.whoIsAt(river, next);
            if (who == NOBODY) {
                return 0;
            }
            if (who != TUG && rivers.number(who, SIDE) == side) {
                return canLeave(side, river, next, step) ? 1 : 0;
            }
            return canLeave(side, river, next - step, step) ? 1 : 0;
        }

        /** Whether a ferry of the side is at a place, goes that way, and is not held there by fog. */
        private boolean canLeave(int side, int river, int place, int step) {
            int who = rivers.whoIsAt(river, place);
            return who != NOBODY && who != TUG && rivers.number(who, SIDE) == side && goesBy(who, step)
                    && !rivers.liesInFog(river, place);
        }

        int capturesByJumper(int side) {
            int count = 0;
            for (int ferry = 0; ferry < rivers.total(FERRIES); ferry++) {
                if (rivers.number(ferry, SIDE) == side) {
                    count += jumpsBy(ferry);
                }
            }
            return count;
        }

        int capturesByJumped(int side) {
            int count = 0;
            for (int ferry = 0; ferry < rivers.total(FERRIES); ferry++) {
                if (rivers.number(ferry, SIDE) != side) {
                    count += jumpsOver(ferry);
                }
            }
            return count;
        }

        /** How many jumps over a ferry the other side would have if it had the turn. */
        int jumpsOver(int ferry) {
            int otherSide = 1 - rivers.number(ferry, SIDE);
            int count = 0;
            for (int river = 0; river < RIVERS; river++) {
                int place = rivers.number(ferry, PLACE + river);
                for (int step = LESSER; step <= GREATER; step += 2) {
                    if (rivers.isFree(river, place + step) && canLeave(otherSide, river, place - step, step)) {
                        count++;
                    }
                }
            }
            return count;
        }

        boolean isToldAlike(int side) {
            return movesByFerry(side) == movesByPlace(side) && capturesByJumper(side) == capturesByJumped(side);
        }

        /** The most points that a side could get by one move if it had the turn. */
        int mostPoints(int side) {
            int most = 0;
            for (int ferry = 0; ferry < rivers.total(FERRIES); ferry++) {
                if (rivers.number(ferry, SIDE) != side && jumpsOver(ferry) > 0) {
                    most = Math.max(most, worthOf(ferry));
                }
            }
            return most;
        }

        /** How far the next lock is to where a ferry goes, or 0 without one. */
        int wayToLock(int ferry, int river) {
            int place = rivers.number(ferry, PLACE + river);
            for (int way = 1; way < PLACES; way++) {
                boolean isAhead = goesBy(ferry, GREATER) && rivers.usesAt(river, place + way) > 0;
                boolean isBelow = goesBy(ferry, LESSER) && rivers.usesAt(river, place - way) > 0;
                if (isAhead || isBelow) {
                    return way;
                }
            }
            return 0;
        }

        /** How many ferries are ahead of one as the boldest. */
        int bolderThan(int ferry) {
            int count = 0;
            for (int other = 0; other < rivers.total(FERRIES); other++) {
                int lead = boldness(other) - boldness(ferry);
                if (lead > 0 || lead == 0 && other < ferry) {
                    count++;
                }
            }
            return count;
        }

        /** One jump more counts for more than to be a king. */
        private int boldness(int ferry) {
            return 2 * rivers.number(ferry, JUMPED) + rivers.number(ferry, KING);
        }

        /** How many ferries are ahead of one as the farthest. */
        int fartherThan(int ferry) {
            int count = 0;
            for (int other = 0; other < rivers.total(FERRIES); other++) {
                int lead = wayCome(other) - wayCome(ferry);
                if (lead > 0 || lead == 0 && other < ferry) {
                    count++;
                }
            }
            return count;
        }

        private int wayCome(int ferry) {
            int places = rivers.number(ferry, PLACE) + rivers.number(ferry, PLACE + 1);
            return rivers.number(ferry, SIDE) == 0 ? places : RIVERS * (PLACES - 1) - places;
        }
    }

    /** Looks at what speaks against changes, and carries orders out; the reason of a refusal is kept. */
    private static final class Desk {
        private final Rivers rivers;
        private final Game game;
        private final Reasons reasons;

        Desk(Rivers rivers, Game game, Reasons reasons) {
            this.rivers = rivers;
            this.game = game;
            this.reasons = reasons;
        }

        int objectionToFerry(int side, int first, int second) {
            if (!isSide(side) || !isPlace(first) || !isPlace(second)) {
                return NOT_RIGHT;
            }
            if (rivers.total(FERRIES) >= MOST_FERRIES) {
                return refuse(ALL_THERE, MOST_FERRIES);
            }
            if (!rivers.isFree(0, first)) {
                return refuse(NOT_FREE, first);
            }
            return rivers.isFree(1, second) ? NO_OBJECTION : refuse(NOT_FREE, second);
        }

        int objectionToTug(int river, int place) {
            if (!isRiver(river) || !isPlace(place)) {
                return NOT_THERE;
            }
            if (rivers.tugsOn(river) >= MOST_TUGS) {
                return refuse(ALL_THERE, MOST_TUGS);
            }
            return rivers.isFree(river, place) ? NO_OBJECTION : refuse(NOT_FREE, place);
        }

        int objectionToLock(int river, int place, int uses) {
            if (!isRiver(river) || !isPlace(place)) {
                return NOT_THERE;
            }
            if (uses < 0 || uses > MOST_USES) {
                return NOT_RIGHT;
            }
            return rivers.usesAt(river, place) == uses ? refuse(SO_ALREADY, uses) : NO_OBJECTION;
        }

        int objectionToFog(int river, int place, int width) {
            if (!isRiver(river) || !isPlace(place)) {
                return NOT_THERE;
            }
            if (width < 0 || width > MOST_FOG) {
                return NOT_RIGHT;
            }
            boolean isSo = rivers.fogBegin(river) == place && rivers.fogWidth(river) == width;
            return isSo ? refuse(SO_ALREADY, width) : NO_OBJECTION;
        }

        int objectionToMove(int ferry, int river, int step) {
            if (!rivers.isFerry(ferry) || !isRiver(river)) {
                return NOT_THERE;
            }
            int outcome = game.outcomeNow(ferry, river, step);
            if (isMove(outcome)) {
                return NO_OBJECTION;
            }
            refuse(outcome, game.detailOf(outcome, ferry, river, step));
            reasons.putAhead(CANNOT_MOVE_SO, ferry);
            return REFUSED;
        }

        int objectionToPass() {
            int side = rivers.total(TURN);
            for (int ferry = 0; ferry < rivers.total(FERRIES); ferry++) {
                if (rivers.number(ferry, SIDE) == side && game.movesOf(ferry) > 0) {
                    return refuse(CAN_MOVE, ferry);
                }
            }
            return NO_OBJECTION;
        }

        private int refuse(int reason, int detail) {
            reasons.keep(reason, detail);
            return REFUSED;
        }

        /** What speaks against the change that an order tells. */
        int objectionTo(int word, int first, int second, int third) {
            switch (word) {
                case FERRY_WORD: return objectionToFerry(first, second, third);
                case TUG_WORD: return objectionToTug(first, second);
                case LOCK_WORD: return objectionToLock(first, second, third);
                case FOG_WORD: return objectionToFog(first, second, third);
                case MOVE_WORD: return objectionToMove(first, second, stepTo(third == 1));
                default: return objectionToPass();
            }
        }

        /** Carries out an order against which nothing speaks. */
        void carryOut(int word, int first, int second, int third) {
            switch (word) {
                case FERRY_WORD:
                    rivers.addFerry(first, second, third);
                    break;
                case TUG_WORD:
                    rivers.addTug(first, second);
                    break;
                case LOCK_WORD:
                    rivers.tellUses(first, second, third);
                    break;
                case FOG_WORD:
                    rivers.tellFog(first, second, third);
                    break;
                case MOVE_WORD:
                    game.makeMove(first, second, stepTo(third == 1));
                    break;
                default:
                    game.passTurn();
            }
        }
    }

    /** The reason of the latest refusal, with those that stand behind it. */
    private static final class Reasons {
        private final int[] chain = new int[DEEPEST_REASON];
        private final int[] details = new int[DEEPEST_REASON];
        private int count;

        void keep(int reason, int detail) {
            count = 0;
            putAhead(reason, detail);
        }

        void putAhead(int reason, int detail) {
            for (int i = Math.min(chain.length, details.length) - 1; i >= 0; i--) {
                chain[i] = i > 0 ? chain[i - 1] : reason;
                details[i] = i > 0 ? details[i - 1] : detail;
            }
            count = Math.min(count + 1, DEEPEST_REASON);
        }

        int reasonAt(int depth) {
            return depth >= 0 && depth < chain.length ? chain[depth] : 0;
        }

        int detailAt(int depth) {
            return depth >= 0 && depth < details.length ? details[depth] : 0;
        }
    }

    /** What was before the latest changes, the rows used in turn. */
    private static final class History {
        private final int[] rows = new int[MOST_CHANGES * CELLS];
        private int next;
        private int count;

        void keep(Rivers rivers) {
            rivers.copyTo(rows, next * CELLS);
            next = (next + 1) % MOST_CHANGES;
            count = Math.min(count + 1, MOST_CHANGES);
        }

        void putBack(Rivers rivers) {
            next = (next + MOST_CHANGES - 1) % MOST_CHANGES;
            rivers.copyFrom(rows, next * CELLS);
            count--;
        }
    }

    /** The line that was written last. */
    private static final class Line {
        private final char[] signs = new char[PLACES];
        private int length;

        int writeRiver(Rivers rivers, int river) {
            length = 0;
            for (int place = 0; place < PLACES; place++) {
                int who = rivers.whoIsAt(river, place);
                if (who == TUG) {
                    add('*');
                } else if (who != NOBODY) {
                    add(letterOf(rivers, who));
                } else {
                    add(rivers.usesAt(river, place) > 0 ? '=' : '.');
                }
            }
            return length;
        }

        int writeFerry(Rivers rivers, int ferry) {
            length = 0;
            add(letterOf(rivers, ferry));
            add((char) ('0' + rivers.number(ferry, SIDE)));
            add('@');
            addPlace(rivers.number(ferry, PLACE));
            add('/');
            addPlace(rivers.number(ferry, PLACE + 1));
            return length;
        }

        private static char letterOf(Rivers rivers, int ferry) {
            char first = rivers.number(ferry, KING) == 1 ? 'A' : 'a';
            return (char) (first + ferry);
        }

        private void addPlace(int place) {
            if (place >= 10) {
                add('1');
            }
            add((char) ('0' + place % 10));
        }

        private void add(char sign) {
            if (length >= 0 && length < signs.length) {
                signs[length] = sign;
                length++;
            }
        }

        boolean has(int index) {
            return index >= 0 && index < length;
        }

        char signAt(int index) {
            return index >= 0 && index < signs.length ? signs[index] : ' ';
        }
    }

    /** The input, and the orders that were read from it. */
    private static final class Text {
        private static final char DIGIT = '#';
        private static final char PLACE_DIGITS = '@';
        private static final char WAY = '%';
        // One more than the input can hold, for the try behind a last semicolon.
        private static final int MOST_ORDERS = 13;
        private static final int ORDER_CELLS = 4;

        private final char[] input = new char[MOST_INPUT];
        private int length;
        private final int[] orders = new int[MOST_ORDERS * ORDER_CELLS];
        private int orderCount;
        private int error = NO_ERROR;

        int add(char c) {
            if (length >= 0 && length < input.length) {
                input[length] = c;
                length++;
            }
            return length;
        }

        /** Whether the input has no error. */
        boolean readOrders() {
            int start = 0;
            orderCount = 0;
            for (int i = 0; i < MOST_ORDERS; i++) {
                int end = readOrder(start);
                if (end < 0) {
                    error = ~end;
                    return false;
                }
                orderCount++;
                if (end == length) {
                    error = NO_ERROR;
                    return true;
                }
                if (signAt(end) != ';') {
                    error = end;
                    return false;
                }
                start = end + 1;
            }
            error = start;
            return false;
        }

        int orderAt(int order, int cell) {
            int index = order * ORDER_CELLS + cell;
            return index >= 0 && index < orders.length ? orders[index] : 0;
        }

        private void setOrder(int cell, int value) {
            int index = orderCount * ORDER_CELLS + cell;
            if (index >= 0 && index < orders.length) {
                orders[index] = value;
            }
        }

        /** The offset behind the order, or ~ the offset of the first character that fits no order. */
        private int readOrder(int start) {
            int furthest = start;
            for (int word = 0; word < WORDS; word++) {
                int end = readShape(word, start);
                if (end >= 0) {
                    setOrder(0, word);
                    return end;
                }
                furthest = Math.max(furthest, ~end);
            }
            return ~furthest;
        }

        private int readShape(int word, int start) {
            String shape = shapeOf(word);
            int offset = start;
            int numbers = 0;
            for (int i = 0; i < shape.length(); i++) {
                char part = shape.charAt(i);
                int width = widthOf(part, offset);
                if (width == 0) {
                    return ~offset;
                }
                if (part == DIGIT || part == PLACE_DIGITS || part == WAY) {
                    numbers++;
                    setOrder(numbers, part == WAY ? wayAt(offset) : numberAt(offset, width));
                }
                offset += width;
            }
            return offset;
        }

        private static String shapeOf(int word) {
            switch (word) {
                case FERRY_WORD: return "ferry # @ @";
                case TUG_WORD: return "tug # @";
                case LOCK_WORD: return "lock # @ #";
                case FOG_WORD: return "fog # @ #";
                case MOVE_WORD: return "move # #%";
                default: return "pass";
            }
        }

        /** How many characters of the input are the part of a shape, 0 if the input does not go on so. */
        private int widthOf(char part, int offset) {
            char sign = signAt(offset);
            if (part == PLACE_DIGITS && isDigit(sign)) {
                return isDigit(signAt(offset + 1)) ? 2 : 1;
            }
            if (part == DIGIT || part == PLACE_DIGITS) {
                return isDigit(sign) ? 1 : 0;
            }
            if (part == WAY) {
                return sign == '+' || sign == '-' ? 1 : 0;
            }
            return sign == part ? 1 : 0;
        }

        private int wayAt(int offset) {
            return signAt(offset) == '+' ? 1 : 0;
        }

        private int numberAt(int offset, int width) {
            int number = 0;
            for (int i = 0; i < width; i++) {
                number = number * 10 + signAt(offset + i) - '0';
            }
            return number;
        }

        /** A character of the input; behind its end one that fits nothing. */
        private char signAt(int offset) {
            return offset >= 0 && offset < length && offset < input.length ? input[offset] : (char) 0;
        }

        private static boolean isDigit(char sign) {
            return sign >= '0' && sign <= '9';
        }
    }
}
