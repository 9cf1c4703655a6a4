/** One call of the face: which one it is and its arguments, so that a run can be made, told and made again. */
final class Call {
    enum Kind {
        HALL("hall", 2), CRANE("crane", 2), WELDER("welder", 2), DRAW("draw", 1), BLOCK("block", 6), JOIN("join", 3),
        ERECT("erect", 2), SCRAP("scrap", 1), TEST("test", 1), REPAIR("repair", 2), HOLE("hole", 2),
        PAINT("paint", 1), FIT("fit", 2), PIPE("pipe", 2), LAUNCH("launch", 1),
        BLOCKS("blocks", 0), WELDS("welds", 0), IS_AFLOAT("isAfloat", 0), WHY_NOT("whyNot", 1), TOLD("told", 2),
        WELD("weld", 2), CELL("cell", 2), ROOM_AT("roomAt", 2), TONS("tons", 0), TONS_ANEW("tonsAnew", 0),
        CENTRE("centre", 0), DRAUGHT("draught", 1), WATER("water", 1), FIRST_HOUR("firstHour", 0),
        MONEY("money", 0), MONEY_ANEW("moneyAnew", 0);

        final String text;
        final int arguments;

        Kind(String text, int arguments) {
            this.text = text;
            this.arguments = arguments;
        }

        /** "Nothing from here on changes anything", says the document ahead of blocks(). */
        boolean isDeed() {
            return ordinal() < BLOCKS.ordinal();
        }

        static Kind of(String text) {
            for (Kind kind : values()) {
                if (kind.text.equals(text)) {
                    return kind;
                }
            }
            throw new AssertionError("no such call: " + text);
        }
    }

    final Kind kind;
    final int[] arguments;

    Call(Kind kind, int... arguments) {
        if (arguments.length != kind.arguments) {
            throw new AssertionError(kind.text + " with " + arguments.length + " arguments");
        }
        this.kind = kind;
        this.arguments = arguments;
    }

    /** Reads what toString() writes; true, false, min and max may stand for 1, 0, the least int and the greatest. */
    static Call of(String text) {
        int open = text.indexOf('(');
        Kind kind = Kind.of(text.substring(0, open));
        String inside = text.substring(open + 1, text.lastIndexOf(')'));
        String[] parts = inside.isEmpty() ? new String[0] : inside.split(",");
        int[] arguments = new int[parts.length];
        for (int i = 0; i < parts.length; i++) {
            arguments[i] = number(parts[i].trim());
        }
        return new Call(kind, arguments);
    }

    private static int number(String text) {
        switch (text) {
            case "true": return 1;
            case "false": return 0;
            case "min": return Integer.MIN_VALUE;
            case "max": return Integer.MAX_VALUE;
            default: return Integer.parseInt(text);
        }
    }

    /** What an object answers: a number (a boolean counts 1 or 0), or "throws" and the exception. */
    String answerOf(Stowfinish object) {
        try {
            return String.valueOf(on(object));
        } catch (RuntimeException thrown) {
            return textOf(thrown);
        }
    }

    static String textOf(RuntimeException thrown) {
        return "throws " + thrown.getClass().getSimpleName();
    }

    long on(Stowfinish yard) {
        int[] a = arguments;
        switch (kind) {
            case HALL: return yard.hall(a[0], a[1]);
            case CRANE: return yard.crane(a[0], a[1]);
            case WELDER: return yard.welder(a[0], a[1]);
            case DRAW: return yard.draw(a[0]);
            case BLOCK: return yard.block(a[0], a[1], a[2], a[3], a[4], a[5]);
            case JOIN: return yard.join(a[0], a[1], a[2]);
            case ERECT: return yard.erect(a[0], a[1]);
            case SCRAP: return yard.scrap(a[0]);
            case TEST: return yard.test(a[0]);
            case REPAIR: return yard.repair(a[0], a[1]);
            case HOLE: return yard.hole(a[0], a[1] != 0);
            case PAINT: return yard.paint(a[0]);
            case FIT: return yard.fit(a[0], a[1]);
            case PIPE: return yard.pipe(a[0], a[1]);
            case LAUNCH: return yard.launch(a[0]);
            case BLOCKS: return yard.blocks();
            case WELDS: return yard.welds();
            case IS_AFLOAT: return yard.isAfloat() ? 1 : 0;
            case WHY_NOT: return yard.whyNot(a[0]);
            case TOLD: return yard.told(a[0], a[1]);
            case WELD: return yard.weld(a[0], a[1]);
            case CELL: return yard.cell(a[0], a[1]);
            case ROOM_AT: return yard.roomAt(a[0], a[1]);
            case TONS: return yard.tons();
            case TONS_ANEW: return yard.tonsAnew();
            case CENTRE: return yard.centre();
            case DRAUGHT: return yard.draught(a[0] != 0);
            case WATER: return yard.water(a[0]);
            case FIRST_HOUR: return yard.firstHour();
            case MONEY: return yard.money();
            default: return yard.moneyAnew();
        }
    }

    @Override
    public String toString() {
        StringBuilder text = new StringBuilder(kind.text).append('(');
        for (int i = 0; i < arguments.length; i++) {
            text.append(i == 0 ? "" : ", ").append(arguments[i]);
        }
        return text.append(')').toString();
    }
}
