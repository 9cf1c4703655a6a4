import java.util.ArrayList;
import java.util.List;

/** Finds out whether a call has changed anything: all is asked, and all is tried, with the call and without it. */
final class Probes {
    private static final int CELLS = 36, MOST_PIPES = 30;

    private interface Probe {
        void ask(Yard yard, StringBuilder answers);
    }

    private static final List<Probe> ALL = List.of(
            Probes::answers, Probes::told, Probes::builds, Probes::joins, Probes::erects, Probes::scraps,
            Probes::testsAndRepairs, Probes::holes, Probes::paintsAndFits, Probes::pipes, Probes::launches);

    private Probes() {
    }

    /** The first answers that are others after the second row of calls; null if there are none. */
    static String difference(List<Call> calls, List<Call> others) {
        for (Probe probe : ALL) {
            String answers = answersTo(probe, calls);
            String changed = answersTo(probe, others);
            if (!answers.equals(changed)) {
                return answers + "became" + changed;
            }
        }
        return null;
    }

    private static String answersTo(Probe probe, List<Call> calls) {
        StringBuilder answers = new StringBuilder("\n");
        probe.ask(new Yard(calls), answers);
        return answers.toString();
    }

    private static String make(Yard yard, StringBuilder answers, Call.Kind kind, int... arguments) {
        Call call = new Call(kind, arguments);
        String answer = yard.make(call);
        answers.append(call).append(' ').append(answer).append('\n');
        return answer;
    }

    /** All that the yard answers. */
    private static void answers(Yard yard, StringBuilder answers) {
        for (int block = 0; block < yard.blocks(); block++) {
            make(yard, answers, Call.Kind.WHY_NOT, block);
            facts(yard, answers, Call.Kind.TOLD, block, 7);
        }
        for (int weld = 0; weld < yard.welds(); weld++) {
            facts(yard, answers, Call.Kind.WELD, weld, 3);
        }
        for (int cell = 0; cell < CELLS; cell++) {
            facts(yard, answers, Call.Kind.CELL, cell, 4);
        }
        ways(yard, answers);
        for (Call.Kind kind : Call.Kind.values()) {
            if (kind.arguments == 0) {
                make(yard, answers, kind);
            }
        }
        make(yard, answers, Call.Kind.DRAUGHT, 0);
        make(yard, answers, Call.Kind.DRAUGHT, 1);
    }

    private static void facts(Yard yard, StringBuilder answers, Call.Kind kind, int number, int most) {
        for (int what = 0; what <= most; what++) {
            make(yard, answers, kind, number, what);
        }
    }

    private static void ways(Yard yard, StringBuilder answers) {
        for (int pipe = 0; pipe < MOST_PIPES; pipe++) {
            for (int place = 0; place <= CELLS; place++) {
                String room = make(yard, answers, Call.Kind.ROOM_AT, pipe, place);
                if (room.startsWith("throws")) {
                    return;
                }
                if (room.equals("-1")) {
                    break;
                }
            }
        }
    }

    private static void told(Yard yard, StringBuilder answers) {
        make(yard, answers, Call.Kind.HALL, 6, 300);
        make(yard, answers, Call.Kind.CRANE, 0, 200);
        make(yard, answers, Call.Kind.DRAW, 1);
        for (int welder = 0; welder < 4; welder++) {
            make(yard, answers, Call.Kind.WELDER, welder, 10);
        }
    }

    /** Blocks of so many tons that a crane or a hall that is not the same is seen. */
    private static void builds(Yard yard, StringBuilder answers) {
        int number = yard.blocks();
        for (int tons = 1; tons <= 96; tons += 5) {
            make(yard, answers, Call.Kind.BLOCK, 0, 0, 0, tons, 0, 8);
            make(yard, answers, Call.Kind.BLOCK, 1, 1, 0, tons, 0, 8);
            make(yard, answers, Call.Kind.WHY_NOT, number);
            make(yard, answers, Call.Kind.JOIN, number, number + 1, 0);
            number = yard.blocks();
        }
    }

    private static void joins(Yard yard, StringBuilder answers) {
        int blocks = yard.blocks();
        for (int block = 0; block < blocks; block++) {
            for (int other = block - 2; other <= block + 2; other++) {
                if (other >= 0 && other < blocks && yard.told(block, 0) == Stowfinish.LOOSE
                        && yard.told(other, 1) == yard.told(block, 2) + 1) {
                    make(yard, answers, Call.Kind.JOIN, block, other, 0);
                }
            }
        }
        tests(yard, answers);
    }

    private static void erects(Yard yard, StringBuilder answers) {
        for (int block = 0; block < yard.blocks(); block++) {
            make(yard, answers, Call.Kind.ERECT, block, 0);
        }
        tests(yard, answers);
        make(yard, answers, Call.Kind.DRAW, 1);
    }

    private static void scraps(Yard yard, StringBuilder answers) {
        for (int block = 0; block < yard.blocks(); block++) {
            make(yard, answers, Call.Kind.SCRAP, block);
        }
    }

    private static void tests(Yard yard, StringBuilder answers) {
        for (int weld = 0; weld < yard.welds(); weld++) {
            make(yard, answers, Call.Kind.TEST, weld);
        }
    }

    private static void testsAndRepairs(Yard yard, StringBuilder answers) {
        tests(yard, answers);
        for (int weld = 0; weld < yard.welds(); weld++) {
            make(yard, answers, Call.Kind.REPAIR, weld, 0);
        }
        tests(yard, answers);
    }

    private static void holes(Yard yard, StringBuilder answers) {
        for (int cell = 0; cell < CELLS; cell++) {
            make(yard, answers, Call.Kind.HOLE, cell, 0);
            make(yard, answers, Call.Kind.HOLE, cell, 1);
        }
    }

    private static void paintsAndFits(Yard yard, StringBuilder answers) {
        for (int cell = 0; cell < CELLS; cell++) {
            make(yard, answers, Call.Kind.FIT, cell, 1);
            make(yard, answers, Call.Kind.PAINT, cell);
            make(yard, answers, Call.Kind.FIT, cell, 100);
        }
    }

    private static void pipes(Yard yard, StringBuilder answers) {
        for (int cell = 0; cell < CELLS; cell++) {
            make(yard, answers, Call.Kind.PIPE, cell, cell + 1);
            make(yard, answers, Call.Kind.PIPE, cell, cell + 12);
        }
        ways(yard, answers);
    }

    private static void launches(Yard yard, StringBuilder answers) {
        tests(yard, answers);
        make(yard, answers, Call.Kind.LAUNCH, 0);
        make(yard, answers, Call.Kind.LAUNCH, 6);
        make(yard, answers, Call.Kind.MONEY);
        make(yard, answers, Call.Kind.MONEY_ANEW);
    }
}
