import java.lang.reflect.Field;

/**
 * What isWell tells of games that are not well. No calls lead to such a game, so its row of numbers is changed from
 * outside; where something stands in the row is asked of the program's own constants.
 */
public final class WellTests {
    private static final Checks checks = new Checks();

    private interface Break {
        void in(int[] cells) throws ReflectiveOperationException;
    }

    public static void main(String[] args) throws ReflectiveOperationException {
        ferriesPut();
        ferriesInPlace();
        movesToldAlike();
        capturesToldAlike();
        checks.closeWith("WellTests");
    }

    private static void due(String what, boolean due, FerryDraughts x, Break broken) throws ReflectiveOperationException {
        checks.due(what + ", ahead", true, x::isWell);
        broken.in(cellsOf(x));
        checks.due(what, due, x::isWell);
    }

    private static int[] cellsOf(FerryDraughts x) throws ReflectiveOperationException {
        Field rivers = FerryDraughts.class.getDeclaredField("rivers");
        rivers.setAccessible(true);
        Object held = rivers.get(x);
        Field cells = held.getClass().getDeclaredField("cells");
        cells.setAccessible(true);
        return (int[]) cells.get(held);
    }

    private static int constant(String name) throws ReflectiveOperationException {
        Field field = FerryDraughts.class.getDeclaredField(name);
        field.setAccessible(true);
        return field.getInt(null);
    }

    private static void add(int[] cells, String total, int more) throws ReflectiveOperationException {
        cells[constant("TOTAL_AREA") + constant(total)] += more;
    }

    private static void put(int[] cells, int river, int place, int who) throws ReflectiveOperationException {
        cells[constant("WHO_AREA") + river * 12 + place] = who;
    }

    private static FerryDraughts game(int... ferries) {
        FerryDraughts x = new FerryDraughts();
        for (int i = 0; i < ferries.length; i += 3) {
            x.ferry(ferries[i], ferries[i + 1], ferries[i + 2]);
        }
        return x;
    }

    private static void ferriesPut() throws ReflectiveOperationException {
        due("a ferry put that is nowhere", false, game(0, 3, 0, 1, 4, 11), cells -> add(cells, "FERRIES_PUT", 1));
        due("a ferry there that nobody put", false, game(0, 3, 0, 1, 4, 11), cells -> add(cells, "FERRIES_PUT", -1));
        due("a jump that nobody made", false, game(0, 3, 0, 1, 4, 11), cells -> add(cells, "JUMPS", 1));
        due("a ferry jumped and put", true, game(0, 3, 0, 1, 4, 11), cells -> {
            add(cells, "JUMPS", 1);
            add(cells, "FERRIES_PUT", 1);
        });
        FerryDraughts x = game(0, 3, 0, 1, 4, 11);
        x.move(0, 0, true);
        due("a jump forgotten", false, x, cells -> add(cells, "JUMPS", -1));
    }

    /** Of ferries at the ends of the rivers, so that no moves are missed. */
    private static void ferriesInPlace() throws ReflectiveOperationException {
        due("the first ferry is not on the river 0", false, game(0, 11, 11, 1, 0, 0), cells -> put(cells, 0, 11, -1));
        due("the first ferry is not on the river 1", false, game(0, 11, 11, 1, 0, 0), cells -> put(cells, 1, 11, -1));
        due("the last ferry is not on the river 0", false, game(0, 11, 11, 1, 0, 0), cells -> put(cells, 0, 0, -1));
        due("the last ferry is not on the river 1", false, game(0, 11, 11, 1, 0, 0), cells -> put(cells, 1, 0, -1));
        due("two ferries have changed places", false, game(0, 11, 11, 0, 10, 10), cells -> {
            put(cells, 0, 11, 1);
            put(cells, 0, 10, 0);
        });
    }

    private static void movesToldAlike() throws ReflectiveOperationException {
        due("a ferry of the side 0 is a second time there", false, game(0, 11, 11, 1, 0, 0), cells -> put(cells, 0, 5, 0));
        due("a ferry of the side 1 is a second time there", false, game(0, 11, 11, 1, 0, 0), cells -> put(cells, 1, 5, 1));
        due("a second time there, but it cannot move", true, game(0, 11, 11, 0, 10, 10), cells -> put(cells, 0, 9, 0));
    }

    /** Of a ferry that is a second time there, where it can be jumped over, but cannot move for a tug. */
    private static void capturesToldAlike() throws ReflectiveOperationException {
        FerryDraughts x = game(0, 3, 11, 1, 0, 0);
        x.tug(0, 2);
        due("a capture of the side 0", false, x, cells -> put(cells, 0, 4, 1));
        FerryDraughts y = game(1, 8, 0, 0, 11, 11);
        y.tug(0, 9);
        due("a capture of the side 1", false, y, cells -> put(cells, 0, 7, 1));
    }
}
