/**
 * The boundaries in promises 1 to 5, in the document's part "The public face", and what is told of exceptions.
 * Each name quotes the sentence that it holds.
 */
public final class EdgesOfTheToldTest {
    private static final Checks CHECKS = new Checks();

    public static void main(String[] args) {
        constants();
        calls512();
        promise1NoBlocks();
        promise1NothingStands();
        promise1ToldAtFirst();
        promise2Frames();
        promise2Tons();
        promise2FramesBefore();
        promise2Refused();
        promise3Frame();
        promise3Tons();
        promise3TonsBefore();
        promise3Order();
        promise3Refused();
        promise4Welder();
        promise4Flaws();
        promise4FlawsBefore();
        promise4Order();
        promise4FromNowOn();
        promise5AnyInt();
        promise5WrapsAround();
        promise5BelowTheFlaws();
        promise5OnlyWeldsDraw();
        CHECKS.end();
    }

    private static Edge edge(String sentence) {
        return new Edge(CHECKS, sentence);
    }

    /** The part "The public face". */
    private static void constants() {
        CHECKS.due("NONE = -1", Stowfinish.NONE, -1);
        CHECKS.due("LOOSE = 0", Stowfinish.LOOSE, 0);
        CHECKS.due("PART = 1", Stowfinish.PART, 1);
        CHECKS.due("STANDING = 2", Stowfinish.STANDING, 2);
        CHECKS.due("SCRAPPED = 3", Stowfinish.SCRAPPED, 3);
        CHECKS.due("UNTESTED = 0", Stowfinish.UNTESTED, 0);
        CHECKS.due("GOOD = 1", Stowfinish.GOOD, 1);
        CHECKS.due("BAD = 2", Stowfinish.BAD, 2);
    }

    /** "An object is used for at most 512 calls after it has been made": the 512th is answered as the first is. */
    private static void calls512() {
        Stowfinish drawn = new Stowfinish();
        drawn.draw(0);
        for (int call = 2; call <= 512; call++) {
            CHECKS.due("call " + call + " of at most 512", drawn.draw(call), call == 2 ? 0 : call - 1);
        }
        Stowfinish ship = new Stowfinish();
        ship.hall(12, 1000);
        for (int level = 0; level < 3; level++) {
            ship.erect(ship.block(0, 11, level, 10, 0, 8), 0);
        }
        for (int call = 8; call <= 511; call++) {
            CHECKS.due("call " + call + " of at most 512", ship.draw(call), call == 8 ? 1 : call - 1);
        }
        CHECKS.due("a launch as the last of 512 calls", ship.launch(0), 585);
    }

    // ---- Promise 1

    private static void promise1NoBlocks() {
        edge("promise 1: No blocks").calls("blocks() 0", "welds() 0")
                .noSuch("told(0, 0)", "whyNot(0)", "weld(0, 0)", "roomAt(0, 0)", "erect(0, 0)", "scrap(0)", "test(0)",
                        "repair(0, 0)", "join(0, 0, 0)");
    }

    private static void promise1NothingStands() {
        Edge empty = edge("promise 1: nothing stands");
        for (int cell = 0; cell < 36; cell++) {
            empty.calls("cell(" + cell + ", 0) NONE", "cell(" + cell + ", 1) 0", "cell(" + cell + ", 2) 0",
                    "cell(" + cell + ", 3) 0", "cell(" + cell + ", 4) 0");
        }
        empty.calls("isAfloat() false", "tons() 0", "tonsAnew() 0", "centre() 0", "draught(false) 0",
                "draught(true) 0", "firstHour() NONE", "money() 0", "moneyAnew() 0");
        empty.noSuch("paint(0)", "paint(35)", "fit(0, 1)", "hole(0, false)", "pipe(0, 1)").wrongState("launch(6)");
    }

    private static void promise1ToldAtFirst() {
        edge("promises 1 and 2: the door is wide, 6 at first").calls("hall(6, 300) 6");
        edge("promises 1 and 3: the tons of the crane, 200 at first").calls("crane(0, 200) 200");
        edge("promises 1 and 5: x (an int, 1 at first)").calls("draw(1) 1");
        edge("promises 1 and 4: the flaws of the welder, 10 at first")
                .calls("welder(0, 10) 10", "welder(1, 10) 10", "welder(2, 10) 10", "welder(3, 10) 10");
        edge("promises 1 and 2: than the hall holds, 300 at first").calls("block(0, 0, 0, 100, 0, 1) 0", "block(1, 1, 0, 199, 0, 1) 1",
                        "block(1, 1, 0, 200, 0, 1) 2").wrongState("join(0, 2, 0)").calls("join(0, 1, 0) 3");
        // Reason 5 shows that 195 tons are not too heavy.
        edge("promises 1 and 3: its own frame, 0 at first").calls("block(0, 1, 0, 195, 0, 1) 0", "whyNot(0) 5",
                "block(0, 1, 0, 196, 0, 1) 1", "whyNot(1) 4", "block(11, 11, 0, 145, 0, 1) 2", "whyNot(2) 5",
                "block(11, 11, 0, 146, 0, 1) 3", "whyNot(3) 4");
        // From 103 on 9 of a hundred is drawn, from 72 on 10.
        flawsAtFirst(103, "BAD");
        flawsAtFirst(72, "GOOD");
    }

    private static void flawsAtFirst(int x, String due) {
        for (int welder = 0; welder < 4; welder++) {
            pair("promises 1 and 4: below the flaws of the welder, 10 at first")
                    .calls("draw(" + x + ") 1", "join(0, 1, " + welder + ") 2", "test(0) " + due);
        }
    }

    /** Blocks 0 and 1, of a ton each, can be joined. */
    private static Edge pair(String sentence) {
        return edge(sentence).calls("block(0, 0, 0, 1, 0, 1) 0", "block(1, 1, 0, 1, 0, 1) 1");
    }

    // ---- Promise 2. What the door and the hall let through: EdgesOfBlocksTest, promise 7.

    private static void promise2Frames() {
        edge("promise 2: frames: 1 to 12").calls("hall(1, 300) 6", "hall(12, 300) 1")
                .wrongArgument("hall(0, 300)", "hall(13, 300)", "hall(-1, 300)", "hall(min, 300)", "hall(max, 300)")
                .calls("hall(6, 300) 12");
    }

    private static void promise2Tons() {
        edge("promise 2: tons: 1 to 1000").calls("hall(6, 1) 6", "hall(6, 1000) 6")
                .wrongArgument("hall(6, 0)", "hall(6, 1001)", "hall(6, -1)", "hall(6, min)", "hall(6, max)",
                        "hall(0, 0)", "hall(13, 1001)");
    }

    private static void promise2FramesBefore() {
        edge("promise 2: Returns the frames before")
                .calls("hall(1, 12) 6", "hall(12, 1) 1", "hall(12, 2) 12", "hall(7, 7) 12", "hall(1, 1) 7");
    }

    private static void promise2Refused() {
        Edge told = edge("promise 2: a refused call changes neither frames nor tons").calls("hall(2, 101) 6",
                "block(0, 0, 0, 50, 0, 8) 0", "block(1, 1, 0, 50, 0, 8) 1", "block(1, 1, 0, 51, 0, 8) 2",
                "block(1, 2, 0, 1, 0, 8) 3");
        told.wrongArgument("hall(0, 1)", "hall(13, 1000)", "hall(1, 0)", "hall(12, 1001)");
        told.wrongState("join(0, 2, 0)", "join(0, 3, 0)").calls("join(0, 1, 0) 4", "hall(6, 300) 2");
    }

    // ---- Promise 3. What the crane lifts: EdgesOfTheBerthTest, promise 20, reason 4.

    private static void promise3Frame() {
        edge("promise 3: frame: 0 to 11").calls("crane(0, 200) 200", "crane(11, 200) 200")
                .noSuch("crane(-1, 200)", "crane(12, 200)", "crane(min, 200)", "crane(max, 200)");
    }

    private static void promise3Tons() {
        edge("promise 3: tons: 1 to 1000").calls("crane(0, 1) 200", "crane(0, 1000) 1")
                .wrongArgument("crane(0, 0)", "crane(0, 1001)", "crane(0, -1)", "crane(0, min)", "crane(0, max)")
                .calls("crane(0, 200) 1000");
    }

    private static void promise3TonsBefore() {
        edge("promise 3: Returns the tons before")
                .calls("crane(11, 1) 200", "crane(0, 11) 1", "crane(5, 11) 11", "crane(5, 1000) 11", "crane(0, 1) 1000");
    }

    private static void promise3Order() {
        edge("promise 3: IndexOutOfBoundsException is named first")
                .noSuch("crane(-1, 0)", "crane(12, 1001)", "crane(min, min)", "crane(max, max)");
    }

    private static void promise3Refused() {
        // 56 tons lift one ton over 11 frames, no more.
        edge("promise 3: a refused call moves no crane and lifts no more").calls("crane(0, 56) 200",
                        "block(11, 11, 0, 1, 0, 1) 0", "block(11, 11, 0, 2, 0, 1) 1", "whyNot(0) 0", "whyNot(1) 4")
                .noSuch("crane(12, 1000)", "crane(-1, 1)").wrongArgument("crane(11, 0)", "crane(11, 1001)")
                .calls("whyNot(0) 0", "whyNot(1) 4", "crane(0, 57) 56", "whyNot(1) 0");
    }

    // ---- Promise 4

    private static void promise4Welder() {
        edge("promise 4: each made by one of the welders 0 to 3")
                .calls("welder(0, 1) 10", "welder(3, 2) 10", "welder(1, 3) 10", "welder(2, 4) 10")
                .noSuch("welder(-1, 5)", "welder(4, 5)", "welder(min, 5)", "welder(max, 5)")
                .calls("welder(0, 10) 1", "welder(1, 10) 3", "welder(2, 10) 4", "welder(3, 10) 2");
    }

    private static void promise4Flaws() {
        edge("promise 4: flaws: 0 to 100").calls("welder(0, 0) 10", "welder(0, 100) 0", "welder(3, 100) 10")
                .wrongArgument("welder(0, -1)", "welder(0, 101)", "welder(3, min)", "welder(3, max)")
                .calls("welder(0, 10) 100", "welder(3, 10) 100");
    }

    private static void promise4FlawsBefore() {
        edge("promise 4: Returns those before")
                .calls("welder(2, 100) 10", "welder(2, 100) 100", "welder(2, 0) 100", "welder(2, 1) 0", "welder(1, 1) 10");
    }

    private static void promise4Order() {
        edge("promise 4: IndexOutOfBoundsException is named first")
                .noSuch("welder(-1, -1)", "welder(4, 101)", "welder(min, min)", "welder(max, max)");
    }

    private static void promise4FromNowOn() {
        pair("promise 4: for welds from now on").calls("welder(3, 100)", "join(0, 1, 3) 2", "welder(3, 0)",
                "block(2, 2, 0, 1, 0, 1) 3", "join(2, 3, 3) 4", "welder(3, 100)", "test(0) BAD", "test(1) GOOD",
                "welder(3, 0)", "repair(0, 3) 1", "welder(3, 100)", "test(0) GOOD");
    }

    // ---- Promise 5

    private static void promise5AnyInt() {
        edge("promise 5: Sets x. Returns what it was").calls("draw(0) 1", "draw(-1) 0", "draw(max) -1",
                "draw(min) 2147483647", "draw(1) -2147483648", "draw(1) 1");
    }

    private static void promise5WrapsAround() {
        drawnFrom("1", "1103527590");
        drawnFrom("0", "12345");
        drawnFrom("-1", "-1103502900");
        drawnFrom("1103527590", "-1770082073");
        drawnFrom("max", "1043980748");
        drawnFrom("min", "-2147471303");
    }

    private static void drawnFrom(String x, String due) {
        pair("promise 5: x becomes x * 1103515245 + 12345, reckoned as ints are")
                .calls("draw(" + x + ") 1", "join(0, 1, 0) 2", "draw(1) " + due);
    }

    /** Where x gets below 0 (behind 54, 1152, 41, 116), the shift must bring no sign along. */
    private static void promise5BelowTheFlaws() {
        flawedFrom(0, 0);
        flawedFrom(54, 0);
        flawedFrom(103, 9);
        flawedFrom(1152, 9);
        flawedFrom(72, 10);
        flawedFrom(41, 10);
        flawedFrom(1080, 99);
        flawedFrom(116, 99);
    }

    /** From this x on so many of a hundred are drawn. */
    private static void flawedFrom(int x, int drawn) {
        madeWith(x, drawn, "GOOD");
        madeWith(x, drawn + 1, "BAD");
        madeWith(x, 0, "GOOD");
        madeWith(x, 100, "BAD");
    }

    private static void madeWith(int x, int flaws, String due) {
        pair("promise 5: flawed, if (x >>> 16) modulo 100 is below the flaws of the welder")
                .calls("welder(2, " + flaws + ") 10", "draw(" + x + ") 1", "join(0, 1, 2) 2", "weld(0, 0) UNTESTED",
                        "test(0) " + due);
    }

    private static void promise5OnlyWeldsDraw() {
        edge("promise 5: When it is made, or repaired, x becomes another; else it stays").eager()
                .calls("block(0, 0, 0, 1, 0, 8) 0", "erect(0, 1) 0", "draw(1) 1", "block(1, 1, 0, 1, 0, 8) 1",
                        "erect(1, 1) 0", "draw(5) 1103527590", "test(0) BAD", "paint(0) 1", "fit(0, 1) 1",
                        "hole(0, false) 1", "pipe(0, 1) 2", "draw(1) 5", "repair(0, 1) 1", "draw(1) 1103527590");
    }
}
