import java.util.ArrayList;
import java.util.List;

/** Counts the answers that are not the ones due, and prints them. */
final class Checks {
    interface Answer {
        long answer();
    }

    private int wrong = 0;
    private int made = 0;

    void due(String what, long got, long want) {
        due(what, String.valueOf(got), String.valueOf(want));
    }

    void due(String what, String got, String want) {
        made++;
        if (!got.equals(want)) {
            report(what + ": answered " + got + ", due is " + want);
        }
    }

    void holds(String what, boolean isSo) {
        made++;
        if (!isSo) {
            report(what + " does not hold");
        }
    }

    /** The call must throw exactly this exception, and whatever is called afterwards must answer as without it. */
    void refused(String what, Yard yard, String due, Answer call) {
        List<Call> before = yard.deeds();
        String got;
        try {
            got = String.valueOf(call.answer());
        } catch (RuntimeException thrown) {
            got = Call.textOf(thrown);
        }
        due(what, got, "throws " + due);
        List<Call> after = new ArrayList<>(before);
        after.add(yard.last());
        String difference = Probes.difference(before, after);
        holds(what + ": it changes nothing:" + difference, difference == null);
    }

    void noSuch(String what, Yard yard, Answer call) {
        refused(what, yard, "IndexOutOfBoundsException", call);
    }

    void wrongArgument(String what, Yard yard, Answer call) {
        refused(what, yard, "IllegalArgumentException", call);
    }

    void wrongState(String what, Yard yard, Answer call) {
        refused(what, yard, "IllegalStateException", call);
    }

    void end() {
        System.out.println(made + " checks, " + wrong + " wrong");
        if (wrong != 0) {
            System.exit(1);
        }
    }

    private void report(String text) {
        wrong++;
        System.out.println(text);
    }
}
