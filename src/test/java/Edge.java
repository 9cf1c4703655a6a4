/**
 * A boundary that the document names, with calls that go up to it: "name(arguments) answer" each. A line without an
 * answer is a call that is only not to be refused.
 */
final class Edge {
    private final Checks checks;
    private final String name;
    private Yard yard = new Yard();

    Edge(Checks checks, String name) {
        this.checks = checks;
        this.name = name;
    }

    /** Goes on with a new yard. */
    Edge anew() {
        yard = new Yard();
        return this;
    }

    Edge calls(String... lines) {
        for (String line : lines) {
            int end = line.indexOf(')') + 1;
            String due = line.substring(end).trim();
            Call call = Call.of(line.substring(0, end));
            String got = yard.make(call);
            if (!due.isEmpty() || got.startsWith("throws")) {
                checks.due(name + ": " + call, got, answerOf(due));
            }
        }
        return this;
    }

    Edge noSuch(String... calls) {
        return refused("IndexOutOfBoundsException", calls);
    }

    Edge wrongArgument(String... calls) {
        return refused("IllegalArgumentException", calls);
    }

    Edge wrongState(String... calls) {
        return refused("IllegalStateException", calls);
    }

    private Edge refused(String exception, String... calls) {
        for (String text : calls) {
            Call call = Call.of(text);
            checks.refused(name + ": " + call, yard, exception, () -> yard.answer(call));
        }
        return this;
    }

    private static String answerOf(String due) {
        switch (due) {
            case "true": return "1";
            case "false": return "0";
            case "NONE": return String.valueOf(Stowfinish.NONE);
            case "LOOSE": return String.valueOf(Stowfinish.LOOSE);
            case "PART": return String.valueOf(Stowfinish.PART);
            case "STANDING": return String.valueOf(Stowfinish.STANDING);
            case "SCRAPPED": return String.valueOf(Stowfinish.SCRAPPED);
            case "UNTESTED": return String.valueOf(Stowfinish.UNTESTED);
            case "GOOD": return String.valueOf(Stowfinish.GOOD);
            case "BAD": return String.valueOf(Stowfinish.BAD);
            default: return due;
        }
    }

    // ---- what many edges begin with

    /** A hall and a crane that refuse nothing; welder 0 makes no flaw, welder 1 nothing else. */
    Edge eager() {
        return calls("hall(12, 1000)", "crane(0, 1000)", "welder(0, 0)", "welder(1, 100)");
    }

    /** A block of one frame, on the berth. */
    Edge single(int frame, int level, int tons) {
        return standing(frame, frame, level, tons);
    }

    /** A block of a whole level, on the berth. */
    Edge row(int level, int tons) {
        return standing(0, 11, level, tons);
    }

    Edge standing(int first, int last, int level, int tons) {
        int block = yard.blocks();
        return calls("block(" + first + ", " + last + ", " + level + ", " + tons + ", 0, 8) " + block,
                "erect(" + block + ", 0)");
    }

    /** All 36 cells are filled. */
    Edge full(int low, int middle, int high) {
        return eager().row(0, low).row(1, middle).row(2, high);
    }

    Edge afloat() {
        return full(10, 10, 10).calls("launch(0)");
    }

    /** A block of one frame for each of the tons, joined from ahead on: the last block is the whole. */
    Edge chain(int first, int level, int more, int... tons) {
        int whole = yard.blocks();
        for (int i = 0; i < tons.length; i++) {
            int frame = first + i;
            int block = yard.blocks();
            calls("block(" + frame + ", " + frame + ", " + level + ", " + tons[i] + ", " + (i == 0 ? more : 0) + ", 8)");
            if (i > 0) {
                calls("join(" + whole + ", " + block + ", 0)");
                whole = block + 1;
            }
        }
        return this;
    }

    /** So many tons of things in the rooms of a frame, from below up. */
    Edge heap(int frame, int tons) {
        int left = tons;
        for (int room = frame; room < 36 && left > 0; room += 12) {
            calls("paint(" + room + ")");
            for (int times = 0; times < 3 && left > 0; times++) {
                calls("fit(" + room + ", " + Math.min(100, left) + ")");
                left -= Math.min(100, left);
            }
        }
        return this;
    }
}
