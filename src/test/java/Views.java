/** What can be asked of a game, as texts. */
final class Views {
    private Views() {
    }

    /** The line of a river. */
    static String river(FerryDraughts x, int river) {
        return line(x, x.riverLine(river));
    }

    /** The line of a ferry. */
    static String ferry(FerryDraughts x, int ferry) {
        return line(x, x.ferryLine(ferry));
    }

    private static String line(FerryDraughts x, int length) {
        StringBuilder line = new StringBuilder();
        for (int i = 0; i < length; i++) {
            line.append(x.character(i));
        }
        return line.toString();
    }

    /** The line that was written last, as long as it is. */
    static String line(FerryDraughts x) {
        StringBuilder line = new StringBuilder();
        for (int i = 0; i < 20; i++) {
            int index = i;
            Object sign = Checks.answerOf(() -> x.character(index));
            if (!(sign instanceof Character)) {
                break;
            }
            line.append(sign);
        }
        return line.toString();
    }

    /** The uses of the locks of a river, place by place. */
    static String locks(FerryDraughts x, int river) {
        StringBuilder all = new StringBuilder();
        for (int place = 0; place < 12; place++) {
            all.append(x.lockAt(river, place));
        }
        return all.toString();
    }

    /** The fog of a river, place by place. */
    static String fogs(FerryDraughts x, int river) {
        StringBuilder all = new StringBuilder();
        for (int place = 0; place < 12; place++) {
            all.append(x.isFog(river, place) ? 'f' : '.');
        }
        return all.toString();
    }

    /** The reasons of the latest refusal, as "6:1 4:0 11:1". */
    static String reasons(FerryDraughts x) {
        StringBuilder all = new StringBuilder();
        for (int depth = 0; depth < 5; depth++) {
            int at = depth;
            Object reason = Checks.answerOf(() -> x.refusal(at, false));
            Object detail = Checks.answerOf(() -> x.refusal(at, true));
            if (!(reason instanceof Integer) && !(detail instanceof Integer)) {
                break;
            }
            all.append(depth == 0 ? "" : " ").append(reason).append(':').append(detail);
        }
        return all.toString();
    }

    /** All accounts, from 0 to 13. */
    static String accounts(FerryDraughts x) {
        return accounts(x, 14);
    }

    private static String accounts(FerryDraughts x, int count) {
        StringBuilder all = new StringBuilder();
        for (int what = 0; what < count; what++) {
            all.append(what == 0 ? "" : " ").append(x.account(what));
        }
        return all.toString();
    }

    /** The moves and captures of a side, each told in both ways. */
    static String bothWays(FerryDraughts x, int side) {
        return x.moves(side, false) + "/" + x.moves(side, true) + " " + x.captures(side, false) + "/"
                + x.captures(side, true);
    }

    /** All that can be asked about the game itself; at most some 140 calls. */
    static String state(FerryDraughts x) {
        StringBuilder all = new StringBuilder();
        for (int river = 0; river < 2; river++) {
            all.append(locks(x, river)).append(fogs(x, river));
            for (int place = 0; place < 12; place++) {
                all.append(' ').append(x.at(river, place));
            }
        }
        for (int ferry = 0; ferry < x.account(0); ferry++) {
            for (int what = 0; what < 6; what++) {
                all.append(' ').append(x.ferryOf(ferry, what));
            }
        }
        return all.append(' ').append(accounts(x, 12)).append(' ').append(x.turn()).toString();
    }

    /** Appends the characters of a text; the last answer. */
    static int type(FerryDraughts x, String text) {
        int last = 0;
        for (int i = 0; i < text.length(); i++) {
            last = x.append(text.charAt(i));
        }
        return last;
    }

    /** The answer of run behind a text. */
    static Object run(FerryDraughts x, String text) {
        type(x, text);
        return Checks.answerOf(x::run);
    }
}
