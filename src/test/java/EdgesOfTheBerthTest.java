/**
 * The boundaries in promises 8 and 20, and in the document's part "The berth".
 * Each name quotes the sentence that it holds.
 *
 * What no run of calls can reach:
 * - "Throws IllegalStateException if .. there would be more than 100 welds" (promise 8): no run makes more than 62,
 *   as EdgesOfBlocksTest tells.
 * - Reason 6, "shorter by more than 12", at the levels 1 and 2: only joins make a space longer or a block shorter,
 *   by 2 and by 1 each. Nine joins at most lie in three blocks of a level's 12 frames, and two gaps of 4 are in the
 *   space: 10 is the most at the level 1, 1 at the level 2.
 * - Reason 1, "or the ship is afloat", together with no other reason: afloat all 36 cells are filled, so that reason 2
 *   is so, too, and reason 3, which needs a cell that is not filled, is not.
 */
public final class EdgesOfTheBerthTest {
    private static final Checks CHECKS = new Checks();

    public static void main(String[] args) {
        promise20Numbers();
        reason1NotLoose();
        reason1Afloat();
        reason1First();
        reason2SomeCell();
        reason2First();
        reason3SomeCellBelow();
        reason3First();
        reason4Equal();
        reason4FartherOne();
        reason4MostAndLeast();
        reason4First();
        reason5Equal();
        reason5First();
        reason6Longer();
        reason6Shorter();
        reason6BetweenTwo();
        neighboursAtTheEnds();
        neighboursStandOnTheLevel();
        promise8BeginsAlone();
        promise8BeginsBehind();
        promise8EndsAhead();
        promise8Cut();
        promise8Welds();
        promise8Paint();
        promise8Numbers();
        promise8Welders();
        promise8Order();
        promise8Reasons();
        CHECKS.end();
    }

    private static Edge edge(String sentence) {
        return new Edge(CHECKS, sentence);
    }

    // ---- Promise 20: "Why it cannot be, the first of these that is so"

    private static void promise20Numbers() {
        edge("promise 20: IndexOutOfBoundsException as told").noSuch("whyNot(0)").calls("block(0, 0, 0, 1, 0, 1) 0", "whyNot(0) 0")
                .noSuch("whyNot(-1)", "whyNot(1)", "whyNot(59)", "whyNot(60)", "whyNot(min)", "whyNot(max)");
    }

    private static void reason1NotLoose() {
        edge("promise 20: 1 it is not LOOSE").calls("block(0, 0, 0, 1, 0, 1) 0", "block(1, 1, 0, 1, 0, 1) 1",
                "whyNot(0) 0", "whyNot(1) 0", "join(0, 1, 0) 2", "whyNot(0) 1", "whyNot(1) 1", "whyNot(2) 0", "erect(2, 0) 0",
                "whyNot(2) 1", "whyNot(0) 1", "block(2, 2, 0, 1, 0, 1) 3", "whyNot(3) 0", "scrap(3) 1", "whyNot(3) 1");
    }

    private static void reason1Afloat() {
        edge("promise 20: 1 .. or the ship is afloat").full(10, 10, 10)
                .calls("block(0, 0, 0, 1, 0, 1) 3", "whyNot(3) 2", "launch(0)", "told(3, 0) LOOSE", "whyNot(3) 1");
    }

    private static void reason1First() {
        edge("promise 20: 1 ahead of 2").single(0, 0, 1).calls("whyNot(0) 1");
        edge("promise 20: 1 ahead of 3").calls("block(0, 0, 1, 1, 0, 1) 0", "whyNot(0) 3", "scrap(0) 1", "whyNot(0) 1");
        edge("promise 20: 1 ahead of 4").calls("block(11, 11, 0, 200, 0, 1) 0", "whyNot(0) 4", "scrap(0) 1", "whyNot(0) 1");
        edge("promise 20: 1 ahead of 5").calls("block(0, 0, 0, 13, 0, 1) 0", "whyNot(0) 5", "scrap(0) 1", "whyNot(0) 1");
        edge("promise 20: 1 ahead of 6").single(0, 0, 1).single(2, 0, 1)
                .calls("block(1, 1, 0, 1, 60, 1) 2", "whyNot(2) 6", "scrap(2) 1", "whyNot(2) 1");
        edge("promise 20: 1 ahead of 4 and 5, afloat").full(10, 10, 10)
                .calls("block(0, 0, 0, 1, 0, 1) 3", "block(0, 0, 0, 200, 0, 1) 4", "crane(11, 1)", "launch(0)",
                        "whyNot(3) 1", "whyNot(4) 1");
    }

    private static void reason2SomeCell() {
        for (int filled = 3; filled <= 5; filled++) {
            edge("promise 20: 2 some cell of it is filled by a STANDING one: " + filled).single(filled, 0, 1)
                    .calls("block(3, 5, 0, 1, 0, 1) 1", "whyNot(1) 2");
        }
        edge("promise 20: 2 some cell of it is filled: the first one and the last one of a level").single(0, 0, 1)
                .single(11, 0, 1).calls("block(0, 0, 0, 1, 0, 1) 2", "whyNot(2) 2", "block(11, 11, 0, 1, 0, 1) 3", "whyNot(3) 2",
                        "block(1, 10, 0, 1, 0, 8) 4", "whyNot(4) 0", "block(0, 11, 0, 1, 0, 1) 5", "whyNot(5) 2");
        edge("promise 20: 2 .. of it: those beside it and above it are no matter").single(2, 0, 1).single(6, 0, 1)
                .calls("block(3, 5, 0, 1, 0, 1) 2", "whyNot(2) 0", "block(2, 2, 1, 1, 0, 1) 3", "whyNot(3) 0");
        edge("promise 20: 2 .. by a STANDING one: LOOSE ones are no matter")
                .calls("block(0, 0, 0, 1, 0, 1) 0", "block(0, 0, 0, 1, 0, 1) 1", "whyNot(1) 0");
    }

    private static void reason2First() {
        edge("promise 20: 2 ahead of 3").single(0, 0, 1).single(0, 1, 1).calls("block(0, 1, 1, 1, 0, 1) 2", "whyNot(2) 2");
        edge("promise 20: 2 ahead of 4").single(11, 0, 1).calls("block(11, 11, 0, 200, 0, 1) 1", "whyNot(1) 2");
        edge("promise 20: 2 ahead of 5").single(0, 0, 1).calls("block(0, 0, 0, 13, 0, 1) 1", "whyNot(1) 2");
        edge("promise 20: 2 ahead of 6").single(0, 0, 1).single(2, 0, 1).single(4, 0, 1)
                .calls("block(1, 3, 0, 1, 60, 1) 3", "whyNot(3) 2");
    }

    private static void reason3SomeCellBelow() {
        edge("promise 20: 3 some cell below one of its cells is not: there is none below the level 0")
                .calls("block(0, 11, 0, 1, 0, 1) 0", "whyNot(0) 0");
        for (int open = 3; open <= 5; open++) {
            Edge below = edge("promise 20: 3 some cell below one of its cells is not: " + open);
            for (int frame = 0; frame < 12; frame++) {
                if (frame != open) {
                    below.single(frame, 0, 1);
                }
            }
            below.calls("block(3, 5, 1, 1, 0, 1) 11", "whyNot(11) 3", "block(0, 2, 1, 1, 0, 1) 12", "whyNot(12) 0",
                    "block(" + open + ", " + open + ", 0, 1, 0, 1) 13", "whyNot(11) 3", "erect(13, 0)", "whyNot(11) 0");
        }
        edge("promise 20: 3 .. below: at the level 2 that is the level 1").single(0, 0, 1)
                .calls("block(0, 0, 2, 1, 0, 1) 1", "whyNot(1) 3").single(0, 1, 1).calls("whyNot(1) 0");
        edge("promise 20: 3 .. below: at frame 0 and at frame 11").row(0, 1)
                .calls("block(0, 0, 1, 1, 0, 1) 1", "whyNot(1) 0", "block(11, 11, 1, 1, 0, 1) 2", "whyNot(2) 0",
                        "block(0, 0, 2, 1, 0, 1) 3", "whyNot(3) 3", "block(11, 11, 2, 1, 0, 1) 4", "whyNot(4) 3");
    }

    private static void reason3First() {
        edge("promise 20: 3 ahead of 4").calls("block(11, 11, 1, 200, 0, 8) 0", "whyNot(0) 3");
        edge("promise 20: 3 ahead of 5").calls("block(0, 0, 1, 13, 0, 1) 0", "whyNot(0) 3");
        edge("promise 20: 3 ahead of 6").single(0, 0, 1).single(2, 0, 1).single(0, 1, 1).single(2, 1, 1)
                .calls("block(1, 1, 1, 1, 60, 1) 4", "whyNot(4) 3").single(1, 0, 1).calls("whyNot(4) 6");
    }

    private static void reason4Equal() {
        // Reason 5 shows that reason 4 is not so.
        edge("promise 20: 4 its tons are above what the crane lifts there, 200 tons at frame 0 at first")
                .calls("block(0, 0, 0, 200, 0, 8) 0", "whyNot(0) 5", "block(0, 1, 0, 195, 0, 8) 1", "whyNot(1) 5",
                        "block(0, 1, 0, 196, 0, 8) 2", "whyNot(2) 4", "block(11, 11, 0, 145, 0, 8) 3", "whyNot(3) 5",
                        "block(11, 11, 0, 146, 0, 8) 4", "whyNot(4) 4");
    }

    private static void reason4FartherOne() {
        edge("promise 20: 4 .. from the farther one of the first and the last frame of the block")
                .calls("block(4, 6, 0, 90, 0, 8) 0", "crane(0, 120)", "whyNot(0) 0", "crane(0, 119)", "whyNot(0) 4")
                .calls("crane(11, 125)", "whyNot(0) 0", "crane(11, 124)", "whyNot(0) 4")
                .calls("crane(4, 100)", "whyNot(0) 0", "crane(4, 99)", "whyNot(0) 4")
                .calls("crane(5, 95)", "whyNot(0) 0", "crane(5, 94)", "whyNot(0) 4")
                .calls("crane(6, 100)", "whyNot(0) 0", "crane(6, 99)", "whyNot(0) 4");
        edge("promise 20: 4 .. 5 times no distance").calls("block(11, 11, 0, 90, 0, 8) 0", "crane(11, 90)", "whyNot(0) 0",
                "crane(11, 89)", "whyNot(0) 4");
    }

    private static void reason4MostAndLeast() {
        edge("promise 20: 4 .. a crane of 1 ton").calls("block(0, 0, 0, 1, 0, 1) 0", "block(0, 0, 0, 2, 0, 1) 1",
                "block(11, 11, 0, 1, 0, 1) 2", "crane(0, 1) 200", "whyNot(0) 0", "whyNot(1) 4", "whyNot(2) 4", "crane(0, 55)",
                "whyNot(2) 4", "crane(0, 56)", "whyNot(2) 0");
        edge("promise 20: 4 .. a crane of 1000 tons, 6 frames away").calls("hall(12, 1000)", "crane(6, 1000)")
                .chain(0, 0, 0, 80, 80, 80, 80, 80, 80, 80, 80, 80, 80, 80, 79).calls("told(22, 4) 970", "whyNot(22) 0");
        edge("promise 20: 4 .. a crane of 1000 tons, a ton too much").calls("hall(12, 1000)", "crane(6, 1000)")
                .chain(0, 0, 0, 80, 80, 80, 80, 80, 80, 80, 80, 80, 80, 80, 80).calls("told(22, 4) 971", "whyNot(22) 4");
    }

    private static void reason4First() {
        edge("promise 20: 4 ahead of 5").calls("crane(0, 12)", "block(0, 0, 0, 13, 0, 1) 0", "whyNot(0) 4");
        edge("promise 20: 4 ahead of 6").single(0, 0, 1).single(2, 0, 1)
                .calls("crane(0, 5)", "block(1, 1, 0, 1, 60, 8) 2", "whyNot(2) 4", "crane(0, 6)", "whyNot(2) 6");
    }

    private static void reason5Equal() {
        edge("promise 20: 5 five times its tons are above 60 for each of its lugs, one lug")
                .calls("block(0, 0, 0, 12, 0, 1) 0", "whyNot(0) 0", "block(0, 0, 0, 13, 0, 1) 1", "whyNot(1) 5");
        edge("promise 20: 5 .. 8 lugs").calls("block(0, 0, 0, 96, 0, 8) 0", "whyNot(0) 0", "block(0, 0, 0, 97, 0, 8) 1",
                "whyNot(1) 5");
        // A join adds a ton, but no lug.
        edge("promise 20: 5 .. 16 lugs of a joined one").calls("crane(0, 1000)").chain(0, 0, 0, 96, 95)
                .calls("told(2, 4) 192", "whyNot(2) 0");
        edge("promise 20: 5 .. 16 lugs of a joined one, a ton too much").calls("crane(0, 1000)").chain(0, 0, 0, 96, 96)
                .calls("told(2, 4) 193", "whyNot(2) 5");
    }

    private static void reason5First() {
        edge("promise 20: 5 ahead of 6").single(0, 0, 1).single(2, 0, 1)
                .calls("block(1, 1, 0, 13, 60, 1) 2", "whyNot(2) 5", "block(1, 1, 0, 12, 60, 1) 3", "whyNot(3) 6");
    }

    private static void reason6Longer() {
        // There are 992 from 1004 to 1996.
        edge("promise 20: 6 longer than the space by more than 60").single(0, 0, 1).single(2, 0, 1)
                .calls("block(1, 1, 0, 1, 52, 1) 2", "whyNot(2) 0", "block(1, 1, 0, 1, 53, 1) 3", "whyNot(3) 6",
                        "block(1, 1, 0, 1, 60, 1) 4", "whyNot(4) 6", "block(1, 1, 0, 1, 0, 1) 5", "whyNot(5) 0");
        edge("promise 20: 6 longer .. at the level 2").row(0, 1).row(1, 1).single(0, 2, 1).single(2, 2, 1)
                .calls("block(1, 1, 2, 1, 52, 1) 4", "whyNot(4) 0", "block(1, 1, 2, 1, 53, 1) 5", "whyNot(5) 6");
    }

    private static void reason6Shorter() {
        // Seven joins take 21 of 8 frames, and 7992 are from 1004 to 8996.
        edge("promise 20: 6 .. or shorter by more than 12: by 12").eager().single(0, 0, 1).single(9, 0, 1)
                .chain(1, 0, 1, 1, 1, 1, 1, 1, 1, 1, 1)
                .calls("told(16, 5) 7980", "whyNot(16) 0", "erect(16, 0) 0", "told(16, 5) 7980", "told(16, 7) 1004");
        edge("promise 20: 6 .. or shorter by more than 12: by 13").eager().single(0, 0, 1).single(9, 0, 1)
                .chain(1, 0, 0, 1, 1, 1, 1, 1, 1, 1, 1).calls("told(16, 5) 7979", "whyNot(16) 6").wrongState("erect(16, 0)");
        // At the level 1 nine joins take 18, and 8 are spared by the gaps.
        edge("promise 20: 6 .. shorter by 10, the most at the level 1").eager().row(0, 1).single(0, 1, 1).single(11, 1, 1)
                .chain(1, 1, 0, 1, 1, 1, 1, 1, 1, 1, 1, 1, 1).calls("told(21, 5) 9982", "whyNot(21) 0", "erect(21, 0) 0");
    }

    private static void reason6BetweenTwo() {
        edge("promise 20: 6 it stands between two: beside one or none it may have any length").single(3, 0, 1)
                .calls("block(4, 4, 0, 1, 60, 1) 1", "whyNot(1) 0", "block(0, 2, 0, 1, 60, 1) 2", "whyNot(2) 0",
                        "block(6, 6, 0, 1, 60, 1) 3", "whyNot(3) 0");
        edge("promise 20: 6 it stands between two: a LOOSE one is none of them").single(0, 0, 1)
                .calls("block(2, 2, 0, 1, 0, 1) 1", "block(1, 1, 0, 1, 60, 1) 2", "whyNot(2) 0", "erect(1, 0)", "whyNot(2) 6");
    }

    // ---- Neighbours

    private static void neighboursAtTheEnds() {
        // Cells 11 and 12, and 23 and 24, have numbers beside each other, and are not.
        edge("promise 8: neighbours: nothing is ahead of frame 0").row(0, 1).single(11, 1, 1)
                .calls("block(0, 0, 1, 1, 60, 1) 2", "erect(2, 0) 0", "told(2, 7) 0", "welds() 0")
                .single(0, 2, 1).calls("welds() 0", "told(3, 7) 0");
        edge("promise 8: neighbours: nothing is behind frame 11").standing(0, 10, 0, 1).single(0, 1, 1)
                .calls("welds() 0", "block(11, 11, 0, 1, 0, 1) 2", "erect(2, 0) 0", "told(2, 7) 11004", "welds() 1");
        edge("promise 8: neighbours: nothing is behind frame 11, cell 12 filled").single(0, 0, 1).single(0, 1, 1)
                .calls("block(11, 11, 0, 1, 60, 1) 2", "erect(2, 0) 0", "told(2, 7) 11000", "welds() 0");
        edge("promise 8: neighbours at frames 0 and 11").single(0, 0, 1).single(11, 0, 1)
                .calls("block(1, 10, 0, 1, 0, 1) 2", "erect(2, 0) 8", "welds() 2", "weld(0, 2) 1", "weld(1, 2) 11");
    }

    private static void neighboursStandOnTheLevel() {
        edge("promise 8: Its neighbours are the STANDING ones of its level").row(0, 1).single(3, 1, 1)
                .calls("block(5, 5, 1, 1, 0, 1) 2", "block(4, 4, 2, 1, 0, 1) 3", "block(4, 4, 1, 1, 60, 1) 4", "erect(4, 0) 0",
                        "told(4, 7) 4004", "welds() 1", "erect(3, 0) 0", "told(3, 7) 4000", "welds() 1");
        edge("promise 8: whose last frame is the one ahead of it: not one farther away").single(0, 0, 1).single(4, 0, 1)
                .calls("block(2, 2, 0, 1, 60, 1) 2", "erect(2, 0) 0", "told(2, 7) 2000", "welds() 0");
    }

    // ---- Promise 8

    private static void promise8BeginsAlone() {
        edge("promise 8: without both, it begins at 1000 times its first frame")
                .calls("block(0, 0, 0, 1, 60, 1) 0", "erect(0, 0) 0", "told(0, 7) 0", "block(11, 11, 0, 1, 60, 1) 1",
                        "erect(1, 0) 0", "told(1, 7) 11000", "told(1, 5) 1060", "told(0, 0) STANDING");
    }

    private static void promise8BeginsBehind() {
        edge("promise 8: With the one ahead, it begins 4 millimetres behind the end of that").calls(
                "block(0, 0, 0, 1, 60, 1) 0", "erect(0, 0) 0", "block(1, 1, 0, 1, 0, 1) 1", "erect(1, 0) 0",
                "told(1, 7) 1064", "block(2, 11, 0, 1, 60, 1) 2", "erect(2, 0) 0", "told(2, 7) 2068", "told(2, 5) 10060");
    }

    private static void promise8EndsAhead() {
        edge("promise 8: with the one behind alone, it ends 4 ahead of the beginning of that").single(11, 0, 1)
                .calls("block(10, 10, 0, 1, 0, 1) 1", "erect(1, 0) 0", "told(1, 7) 9996", "block(8, 9, 0, 1, 60, 1) 2",
                        "erect(2, 0) 0", "told(2, 7) 7932");
        edge("promise 8: (it may begin below 0 by that)").single(1, 0, 1)
                .calls("block(0, 0, 0, 1, 60, 1) 1", "erect(1, 0) 0", "told(1, 7) -64", "told(1, 0) STANDING");
        edge("promise 8: it may begin at 0 and be no more").chain(0, 0, 2, 1, 1, 1).single(3, 0, 1)
                .calls("erect(4, 0) 0", "told(4, 7) 0");
        edge("promise 8: it may begin 1 below 0").chain(0, 0, 0, 1, 1).single(2, 0, 1).calls("erect(2, 0) 0", "told(2, 7) -1");
    }

    /** Three joins take 9 of 4 frames, and the gaps leave 8: with 1 more it is as long as the space. */
    private static void promise8Cut() {
        cutWith(0, 0, 3991);
        cutWith(1, 0, 3992);
        cutWith(2, 1, 3992);
        cutWith(60, 59, 3992);
        edge("promise 8: if it is longer than that, it is cut to it: by 60 at most").single(0, 0, 1).single(2, 0, 1)
                .calls("block(1, 1, 0, 1, 52, 1) 2", "erect(2, 0) 60", "told(2, 5) 992", "told(2, 7) 1004", "told(2, 4) 1");
        edge("promise 8: it is cut: beside one or none it is not").single(3, 0, 1)
                .calls("block(4, 4, 0, 1, 60, 1) 1", "erect(1, 0) 0", "told(1, 5) 1060", "block(2, 2, 0, 1, 60, 1) 2",
                        "erect(2, 0) 0", "told(2, 5) 1060");
        // From 1064 to 1992: the space is that between where they stand, not 1000 for a frame.
        edge("promise 8: The space between two is from .. the end of the one to .. the beginning of the other one")
                .calls("block(0, 0, 0, 1, 60, 1) 0", "erect(0, 0)", "block(3, 3, 0, 1, 0, 1) 1", "erect(1, 0)",
                        "block(2, 2, 0, 1, 0, 1) 2", "erect(2, 0)", "told(2, 7) 1996", "block(1, 1, 0, 1, 0, 1) 3",
                        "whyNot(3) 6");
        edge("promise 8: The space .. as they stand, longer by 60").calls("block(0, 0, 0, 1, 48, 1) 0", "erect(0, 0)",
                "block(3, 3, 0, 1, 0, 1) 1", "erect(1, 0)", "block(2, 2, 0, 1, 0, 1) 2", "erect(2, 0)",
                "block(1, 1, 0, 1, 0, 1) 3", "whyNot(3) 0", "erect(3, 0) 60", "told(3, 5) 940", "told(3, 7) 1052");
    }

    private static void cutWith(int more, int cut, int length) {
        edge("promise 8: if it is longer than that, it is cut to it: with " + more + " more").single(0, 0, 1).single(5, 0, 1)
                .chain(1, 0, more, 1, 1, 1, 1).calls("whyNot(8) 0", "erect(8, 0) " + cut, "told(8, 5) " + length, "told(8, 7) 1004");
    }

    private static void promise8Welds() {
        edge("promise 8: With each neighbour a weld is made, that ahead first").eager().single(0, 0, 1).single(3, 0, 1)
                .calls("welds() 0", "money() 200", "block(1, 1, 0, 1, 0, 1) 2", "erect(2, 0)", "welds() 1", "weld(0, 2) 1",
                        "money() 280", "draw(1) 1103527590", "block(2, 2, 0, 1, 0, 1) 3", "erect(3, 0) 12", "welds() 3",
                        "weld(1, 2) 2", "weld(2, 2) 3", "money() 340", "draw(1) -1770082073");
        // From 9385 on 9 of a hundred is drawn, then 10.
        edge("promise 8: that ahead first, also when they are drawn").single(0, 0, 1).single(2, 0, 1)
                .calls("block(1, 1, 0, 1, 0, 1) 2", "draw(9385)", "erect(2, 3) 8", "test(0) BAD", "test(1) GOOD");
    }

    private static void promise8Paint() {
        edge("promise 8: the paint is spoiled of the last room of the one block and the first one of the other").eager()
                .standing(0, 1, 0, 1).standing(4, 5, 0, 1)
                .calls("paint(0) 1", "paint(1) 2", "paint(4) 3", "paint(5) 4", "fit(1, 7) 7", "fit(4, 8) 8")
                .standing(2, 3, 0, 1).calls("cell(0, 1) 1", "cell(1, 1) 0", "cell(2, 1) 0", "cell(3, 1) 0", "cell(4, 1) 0",
                        "cell(5, 1) 1", "cell(1, 2) 7", "cell(4, 2) 8");
        edge("promise 8: no weld, no hot work: one above the other").eager().row(0, 1).calls("paint(0) 1", "paint(11) 2")
                .row(1, 1).calls("welds() 0", "cell(0, 1) 1", "cell(11, 1) 1", "cell(12, 1) 0");
    }

    private static void promise8Numbers() {
        edge("promise 8: IndexOutOfBoundsException as told, of the block").noSuch("erect(0, 0)")
                .calls("block(0, 0, 0, 1, 0, 1) 0")
                .noSuch("erect(-1, 0)", "erect(1, 0)", "erect(59, 0)", "erect(60, 0)", "erect(min, 0)", "erect(max, 0)")
                .calls("erect(0, 0) 0");
    }

    private static void promise8Welders() {
        edge("promise 8: IndexOutOfBoundsException as told, of the welder").calls("block(0, 0, 0, 1, 0, 1) 0")
                .noSuch("erect(0, -1)", "erect(0, 4)", "erect(0, min)", "erect(0, max)").calls("erect(0, 3) 0");
    }

    private static void promise8Order() {
        edge("promise 8: IndexOutOfBoundsException is named first").single(0, 0, 1)
                .calls("block(0, 0, 0, 1, 0, 1) 1", "whyNot(1) 2").noSuch("erect(1, 4)", "erect(0, -1)", "erect(2, 0)");
        edge("promise 8: IndexOutOfBoundsException is named first, afloat").full(10, 10, 10)
                .calls("block(0, 0, 0, 1, 0, 1) 3", "launch(0)").noSuch("erect(3, 4)", "erect(4, 0)").wrongState("erect(3, 0)");
    }

    private static void promise8Reasons() {
        Edge all = edge("promise 8: IllegalStateException if whyNot() is not 0").single(0, 0, 1).single(2, 0, 1);
        all.calls("block(0, 0, 0, 1, 0, 1) 2", "block(1, 1, 1, 1, 0, 1) 3", "block(11, 11, 0, 200, 0, 8) 4",
                "block(1, 1, 0, 13, 0, 1) 5", "block(1, 1, 0, 12, 53, 1) 6", "block(1, 1, 0, 12, 52, 1) 7");
        all.calls("whyNot(0) 1", "whyNot(2) 2", "whyNot(3) 3", "whyNot(4) 4", "whyNot(5) 5", "whyNot(6) 6", "whyNot(7) 0");
        all.wrongState("erect(0, 0)", "erect(2, 0)", "erect(3, 0)", "erect(4, 0)", "erect(5, 0)", "erect(6, 0)");
        all.calls("erect(7, 0) 60");
        edge("promise 8: IllegalStateException .. a PART and a SCRAPPED one").calls("block(0, 0, 0, 1, 0, 1) 0",
                        "block(1, 1, 0, 1, 0, 1) 1", "join(0, 1, 0) 2").wrongState("erect(0, 0)", "erect(1, 0)")
                .calls("scrap(2) 3").wrongState("erect(0, 0)", "erect(2, 0)");
        edge("promise 8: IllegalStateException .. afloat").full(10, 10, 10)
                .calls("block(0, 0, 0, 1, 0, 1) 3", "launch(0)").wrongState("erect(3, 0)", "erect(0, 0)");
    }
}
