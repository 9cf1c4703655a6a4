/** Counts the answers that are not the ones due, and prints them. */
final class Checks {
    interface Call {
        long answer();
    }

    private int wrong = 0;
    private int made = 0;

    void due(String what, long got, long want) {
        made++;
        if (got != want) {
            report(what + " answered " + got + ", due is " + want);
        }
    }

    void holds(String what, boolean isSo) {
        made++;
        if (!isSo) {
            report(what + " does not hold");
        }
    }

    /** The call must throw exactly this exception, and every answer of the yard must stay as it was. */
    void refused(String what, Stowfinish yard, Class<? extends RuntimeException> due, Call call) {
        made++;
        String before = Snapshot.of(yard);
        try {
            report(what + " answered " + call.answer() + ", due is " + due.getSimpleName());
        } catch (RuntimeException thrown) {
            if (thrown.getClass() != due) {
                report(what + " threw " + thrown + ", due is " + due.getSimpleName());
            }
        }
        if (!before.equals(Snapshot.of(yard))) {
            report(what + " changed something:\n" + before + Snapshot.of(yard));
        }
    }

    void noSuch(String what, Stowfinish yard, Call call) {
        refused(what, yard, IndexOutOfBoundsException.class, call);
    }

    void wrongArgument(String what, Stowfinish yard, Call call) {
        refused(what, yard, IllegalArgumentException.class, call);
    }

    void wrongState(String what, Stowfinish yard, Call call) {
        refused(what, yard, IllegalStateException.class, call);
    }

    void end() {
        System.out.println(made + " checks, " + wrong + " wrong");
        if (wrong != 0) {
            System.exit(1);
        }
    }

    private void report(String text) {
        wrong++;
        System.out.println(text);
    }
}
