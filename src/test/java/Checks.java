/** Counts checks that hold and tells of those that do not. */
final class Checks {
    interface Call {
        Object answer();
    }

    private int passed;
    private int failed;

    /** Checks that a call answers what is due: a value, or the very class of an exception. */
    void due(String what, Object due, Call call) {
        Object answer = answerOf(call);
        if (due.equals(answer)) {
            passed++;
        } else {
            failed++;
            System.out.println(what + ": answered " + answer + ", due is " + due);
        }
    }

    static Object answerOf(Call call) {
        try {
            return call.answer();
        } catch (RuntimeException e) {
            return e.getClass();
        }
    }

    int made() {
        return passed + failed;
    }

    int failed() {
        return failed;
    }

    void closeWith(String name) {
        System.out.println(name + ": " + passed + " passed, " + failed + " failed");
        if (failed > 0 || passed == 0) {
            System.exit(1);
        }
    }
}
