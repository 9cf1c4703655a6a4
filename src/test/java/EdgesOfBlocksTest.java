/**
 * The boundaries in promises 6, 7, 17 and 21, and in the document's part "The hull, blocks".
 * Each name quotes the sentence that it holds.
 *
 * What no run of calls can reach:
 * - "Throws IllegalStateException if .. there are .. 100 welds" (promise 7), and "Welds are numbered from 0, at most
 *   100": of 60 blocks 29 at most are joined (each join takes two blocks that are LOOSE and leaves one), which makes
 *   29 welds; on the berth a weld lies between two frames of a level, which are 33. So no run makes more than 62.
 *   The most that we know of, 44, are made in EdgesOfWeldsTest.
 * - Promise 6, "if there are 60, or the ship is afloat": both throw the same, so that neither comes first.
 */
public final class EdgesOfBlocksTest {
    private static final Checks CHECKS = new Checks();

    public static void main(String[] args) {
        promise6Frames();
        promise6Last();
        promise6Levels();
        promise6Tons();
        promise6More();
        promise6Lugs();
        promise6New();
        promise6Sixty();
        promise6Afloat();
        promise6Order();
        promise6NotAsked();
        promise7Numbers();
        promise7Welders();
        promise7FrameBehind();
        promise7RoundTheEnd();
        promise7SameLevel();
        promise7OnlyLoose();
        promise7Shrinks();
        promise7Together();
        promise7Door();
        promise7Hall();
        promise7Sixty();
        promise7Order();
        promise7Afloat();
        promise17Blocks();
        promise21Numbers();
        promise21What();
        promise21Order();
        promise21Begins();
        CHECKS.end();
    }

    private static Edge edge(String sentence) {
        return new Edge(CHECKS, sentence);
    }

    // ---- Promise 6

    private static void promise6Frames() {
        edge("promise 6: the frames 0 to 11").calls("block(0, 0, 0, 1, 0, 1) 0", "block(11, 11, 0, 1, 0, 1) 1",
                        "block(0, 11, 0, 1, 0, 1) 2")
                .noSuch("block(-1, 0, 0, 1, 0, 1)", "block(12, 12, 0, 1, 0, 1)", "block(0, 12, 0, 1, 0, 1)",
                        "block(-1, -1, 0, 1, 0, 1)", "block(0, -1, 0, 1, 0, 1)", "block(12, 11, 0, 1, 0, 1)",
                        "block(min, 0, 0, 1, 0, 1)", "block(0, max, 0, 1, 0, 1)", "block(max, max, 0, 1, 0, 1)",
                        "block(min, max, 0, 1, 0, 1)")
                .calls("blocks() 3");
    }

    private static void promise6Last() {
        edge("promise 6: the last one, first to 11")
                .calls("block(5, 5, 0, 1, 0, 1) 0", "block(5, 11, 0, 1, 0, 1) 1", "block(11, 11, 0, 1, 0, 1) 2")
                .wrongArgument("block(5, 4, 0, 1, 0, 1)", "block(11, 10, 0, 1, 0, 1)", "block(11, 0, 0, 1, 0, 1)",
                        "block(1, 0, 0, 1, 0, 1)")
                .noSuch("block(5, 12, 0, 1, 0, 1)");
    }

    private static void promise6Levels() {
        edge("promise 6: the levels 0 to 2").calls("block(0, 0, 0, 1, 0, 1) 0", "block(0, 0, 2, 1, 0, 1) 1",
                        "told(0, 3) 0", "told(1, 3) 2")
                .noSuch("block(0, 0, -1, 1, 0, 1)", "block(0, 0, 3, 1, 0, 1)", "block(0, 0, min, 1, 0, 1)",
                        "block(0, 0, max, 1, 0, 1)");
    }

    private static void promise6Tons() {
        edge("promise 6: tons: 1 to 200").calls("block(0, 0, 0, 1, 0, 1) 0", "block(0, 0, 0, 200, 0, 1) 1",
                        "told(0, 4) 1", "told(1, 4) 200")
                .wrongArgument("block(0, 0, 0, 0, 0, 1)", "block(0, 0, 0, 201, 0, 1)", "block(0, 0, 0, -1, 0, 1)",
                        "block(0, 0, 0, min, 0, 1)", "block(0, 0, 0, max, 0, 1)");
    }

    private static void promise6More() {
        edge("promise 6: more: 0 to 60").calls("block(0, 0, 0, 1, 0, 1) 0", "block(0, 0, 0, 1, 60, 1) 1",
                        "told(0, 5) 1000", "told(1, 5) 1060")
                .wrongArgument("block(0, 0, 0, 1, -1, 1)", "block(0, 0, 0, 1, 61, 1)", "block(0, 0, 0, 1, min, 1)",
                        "block(0, 0, 0, 1, max, 1)");
    }

    private static void promise6Lugs() {
        edge("promise 6: lugs: 1 to 8").calls("block(0, 0, 0, 1, 0, 1) 0", "block(0, 0, 0, 1, 0, 8) 1",
                        "told(0, 6) 1", "told(1, 6) 8")
                .wrongArgument("block(0, 0, 0, 1, 0, 0)", "block(0, 0, 0, 1, 0, 9)", "block(0, 0, 0, 1, 0, -1)",
                        "block(0, 0, 0, 1, 0, min)", "block(0, 0, 0, 1, 0, max)");
    }

    private static void promise6New() {
        edge("promise 6: A new one is LOOSE; its length is 1000 for each frame, and what is added ahead")
                .calls("block(3, 3, 1, 1, 0, 1) 0", "told(0, 0) LOOSE", "told(0, 1) 3", "told(0, 2) 3", "told(0, 5) 1000",
                        "told(0, 7) NONE")
                .calls("block(0, 11, 1, 1, 60, 1) 1", "told(1, 0) LOOSE", "told(1, 1) 0", "told(1, 2) 11",
                        "told(1, 5) 12060", "told(1, 7) NONE", "money() 0", "tons() 0");
    }

    private static Edge sixty(String sentence) {
        Edge full = edge(sentence);
        for (int block = 0; block < 60; block++) {
            full.calls("block(" + block % 12 + ", " + block % 12 + ", 0, 1, 0, 1) " + block);
        }
        return full;
    }

    private static void promise6Sixty() {
        sixty("promise 6: Blocks are numbered from 0, at most 60").calls("blocks() 60", "told(0, 0) LOOSE", "told(59, 0) LOOSE")
                .noSuch("told(60, 0)").wrongState("block(0, 0, 0, 1, 0, 1)").calls("scrap(59) 1", "erect(0, 0) 0")
                .wrongState("block(0, 0, 0, 1, 0, 1)").calls("blocks() 60");
    }

    private static void promise6Afloat() {
        edge("promise 6: IllegalStateException if .. the ship is afloat").full(10, 10, 10)
                .calls("block(0, 0, 0, 1, 0, 1) 3", "launch(0)").wrongState("block(0, 0, 0, 1, 0, 1)").calls("blocks() 4");
    }

    private static void promise6Order() {
        edge("promise 6: IndexOutOfBoundsException is named before IllegalArgumentException")
                .noSuch("block(-1, 0, 0, 0, 0, 1)", "block(0, 12, 0, 1, 61, 1)", "block(0, 0, 3, 1, 0, 9)",
                        "block(12, 11, 0, 1, 0, 1)", "block(5, 4, -1, 201, -1, 0)", "block(max, min, min, min, min, min)");
        Edge full = sixty("promise 6: both are named before IllegalStateException, with 60 blocks");
        full.noSuch("block(-1, 0, 0, 1, 0, 1)", "block(0, 12, 0, 0, 0, 1)", "block(0, 0, 3, 1, 0, 1)");
        full.wrongArgument("block(1, 0, 0, 1, 0, 1)", "block(0, 0, 0, 0, 0, 1)", "block(0, 0, 0, 1, 61, 1)",
                "block(0, 0, 0, 1, 0, 9)");
        Edge ship = edge("promise 6: both are named before IllegalStateException, afloat").afloat();
        ship.noSuch("block(-1, 0, 0, 1, 0, 1)", "block(0, 12, 0, 0, 0, 1)", "block(0, 0, 3, 1, 0, 1)");
        ship.wrongArgument("block(1, 0, 0, 1, 0, 1)", "block(0, 0, 0, 201, 0, 1)", "block(0, 0, 0, 1, -1, 1)",
                "block(0, 0, 0, 1, 0, 0)");
    }

    private static void promise6NotAsked() {
        edge("promise 6: (a block that is built is not asked) for the door and the hall")
                .calls("hall(1, 1) 6", "block(0, 11, 0, 200, 0, 1) 0", "block(0, 1, 0, 2, 0, 1) 1");
    }

    // ---- Promise 7

    private static Edge pair(String sentence) {
        return edge(sentence).calls("block(0, 0, 0, 1, 0, 1) 0", "block(1, 1, 0, 1, 0, 1) 1");
    }

    private static void promise7Numbers() {
        pair("promise 7: IndexOutOfBoundsException as told, of the blocks")
                .noSuch("join(-1, 1, 0)", "join(2, 1, 0)", "join(0, -1, 0)", "join(0, 2, 0)", "join(min, 1, 0)",
                        "join(max, 1, 0)", "join(0, min, 0)", "join(0, max, 0)", "join(60, 60, 0)")
                .calls("join(0, 1, 0) 2", "told(2, 0) LOOSE");
    }

    private static void promise7Welders() {
        pair("promise 7: IndexOutOfBoundsException as told, of the welder")
                .noSuch("join(0, 1, -1)", "join(0, 1, 4)", "join(0, 1, min)", "join(0, 1, max)").calls("join(0, 1, 0) 2");
        pair("promise 7: the last welder").calls("join(0, 1, 3) 2");
    }

    private static void promise7FrameBehind() {
        edge("promise 7: that begins at the frame behind its last one")
                .calls("block(0, 2, 0, 1, 0, 1) 0", "block(2, 3, 0, 1, 0, 1) 1", "block(3, 3, 0, 1, 0, 1) 2",
                        "block(4, 4, 0, 1, 0, 1) 3", "block(0, 2, 0, 1, 0, 1) 4", "block(0, 3, 0, 1, 0, 1) 5")
                .wrongState("join(0, 1, 0)", "join(0, 3, 0)", "join(2, 0, 0)", "join(0, 0, 0)", "join(0, 4, 0)",
                        "join(0, 5, 0)", "join(3, 2, 0)")
                .calls("join(0, 2, 0) 6", "told(6, 1) 0", "told(6, 2) 3");
    }

    /** Frame 11 has nothing behind it: neither frame 0 of its level nor the cell of the next number. */
    private static void promise7RoundTheEnd() {
        edge("promise 7: the frame behind its last one, at the last frame").calls("hall(12, 1000) 6",
                        "block(11, 11, 0, 1, 0, 1) 0", "block(0, 0, 0, 1, 0, 1) 1", "block(0, 0, 1, 1, 0, 1) 2")
                .wrongState("join(0, 1, 0)", "join(0, 2, 0)", "join(2, 0, 0)", "join(1, 0, 0)");
    }

    private static void promise7SameLevel() {
        edge("promise 7: of the same level").calls("block(0, 0, 0, 1, 0, 1) 0", "block(1, 1, 1, 1, 0, 1) 1",
                        "block(1, 1, 2, 1, 0, 1) 2", "block(0, 0, 2, 1, 0, 1) 3")
                .wrongState("join(0, 1, 0)", "join(0, 2, 0)", "join(3, 1, 0)").calls("join(3, 2, 0) 4");
    }

    private static void promise7OnlyLoose() {
        Edge kinds = edge("promise 7: a LOOSE block can be joined with another LOOSE one").eager();
        kinds.calls("block(4, 4, 0, 1, 0, 8) 0", "block(5, 5, 0, 1, 0, 8) 1", "join(0, 1, 0) 2",
                "block(3, 3, 0, 1, 0, 8) 3", "block(6, 6, 0, 1, 0, 8) 4");
        kinds.wrongState("join(0, 1, 0)", "join(3, 0, 0)", "join(1, 4, 0)");
        kinds.calls("block(6, 6, 0, 1, 0, 8) 5", "scrap(5) 1", "block(3, 3, 0, 1, 0, 8) 6", "scrap(6) 1");
        kinds.wrongState("join(2, 5, 0)", "join(6, 2, 0)");
        kinds.calls("block(6, 6, 0, 1, 0, 8) 7", "erect(7, 0) 0", "block(3, 3, 0, 1, 0, 8) 8", "erect(8, 0) 0");
        kinds.wrongState("join(2, 7, 0)", "join(8, 2, 0)");
        kinds.calls("join(3, 2, 0) 9", "join(9, 4, 0) 10", "told(10, 1) 3", "told(10, 2) 6", "told(3, 0) PART",
                "told(2, 0) PART", "told(0, 0) PART", "told(9, 0) PART");
    }

    private static void promise7Shrinks() {
        edge("promise 7: its length that of both less 3 at the level 0").chain(0, 0, 0, 1, 1, 1)
                .calls("told(2, 5) 1997", "told(4, 5) 2994", "told(0, 5) 1000");
        edge("promise 7: 2 at the level 1").chain(0, 1, 60, 1, 1, 1).calls("told(2, 5) 2058", "told(4, 5) 3056");
        edge("promise 7: 1 at the level 2").chain(9, 2, 1, 1, 1, 1).calls("told(2, 5) 2000", "told(4, 5) 2999");
    }

    private static void promise7Together() {
        edge("promise 7: its tons are those of both and 1, its lugs those of both").calls("hall(12, 1000) 6",
                        "block(0, 5, 2, 200, 60, 8) 0", "block(6, 11, 2, 200, 60, 8) 1", "join(0, 1, 3) 2", "told(2, 0) LOOSE",
                        "told(2, 1) 0", "told(2, 2) 11", "told(2, 3) 2", "told(2, 4) 401", "told(2, 5) 12119", "told(2, 6) 16",
                        "told(2, 7) NONE", "told(0, 0) PART", "told(1, 0) PART", "welds() 1", "money() -20")
                .anew().calls("block(0, 0, 0, 1, 0, 1) 0", "block(1, 1, 0, 1, 0, 1) 1", "join(0, 1, 0) 2", "told(2, 4) 3",
                        "told(2, 6) 2");
    }

    private static void promise7Door() {
        edge("promise 7: not more frames than the door is wide, 6 at first")
                .calls("block(0, 2, 0, 1, 0, 1) 0", "block(3, 6, 0, 1, 0, 1) 1", "block(3, 5, 0, 1, 0, 1) 2")
                .wrongState("join(0, 1, 0)").calls("join(0, 2, 0) 3");
        edge("promise 7: not more frames than the door is wide, 1 at least").calls("hall(1, 1000) 6",
                        "block(0, 0, 0, 1, 0, 1) 0", "block(1, 1, 0, 1, 0, 1) 1", "block(2, 2, 0, 1, 0, 1) 2")
                .wrongState("join(0, 1, 0)").calls("hall(2, 1000) 1", "join(0, 1, 0) 3").wrongState("join(3, 2, 0)");
        edge("promise 7: not more frames than the door is wide, 12 at most").calls("hall(11, 1000) 6",
                        "block(0, 10, 0, 1, 0, 1) 0", "block(11, 11, 0, 1, 0, 1) 1", "block(10, 10, 0, 1, 0, 1) 2")
                .wrongState("join(0, 1, 0)").calls("hall(12, 1000) 11", "join(0, 1, 0) 3", "told(3, 2) 11");
    }

    private static void promise7Hall() {
        edge("promise 7: nor more tons than the hall holds, 300 at first").calls("block(0, 0, 0, 100, 0, 1) 0",
                        "block(1, 1, 0, 200, 0, 1) 1", "block(1, 1, 0, 199, 0, 1) 2")
                .wrongState("join(0, 1, 0)").calls("join(0, 2, 0) 3", "told(3, 4) 300");
        edge("promise 7: nor more tons than the hall holds, 1 at least").calls("hall(12, 1) 6",
                        "block(0, 0, 0, 1, 0, 1) 0", "block(1, 1, 0, 1, 0, 1) 1")
                .wrongState("join(0, 1, 0)").calls("hall(12, 2) 12").wrongState("join(0, 1, 0)")
                .calls("hall(12, 3) 12", "join(0, 1, 0) 2", "told(2, 4) 3");
        edge("promise 7: nor more tons than the hall holds, 1000 at most").calls("hall(12, 1000) 6")
                .chain(0, 0, 0, 200, 200, 200, 200)
                .calls("told(6, 4) 803", "block(4, 4, 0, 197, 0, 1) 7", "block(4, 4, 0, 196, 0, 1) 8")
                .wrongState("join(6, 7, 0)").calls("join(6, 8, 0) 9", "told(9, 4) 1000");
    }

    private static void promise7Sixty() {
        Edge last = edge("promise 7: the new one is the 60th");
        for (int block = 0; block < 59; block++) {
            last.calls("block(" + block % 12 + ", " + block % 12 + ", 0, 1, 0, 1) " + block);
        }
        last.calls("join(0, 1, 0) 59", "blocks() 60", "told(59, 0) LOOSE", "told(59, 2) 1");
        last.wrongState("join(2, 3, 0)", "join(59, 2, 0)", "block(0, 0, 0, 1, 0, 1)").calls("welds() 1", "scrap(59) 3");
        last.wrongState("join(2, 3, 0)");
        sixty("promise 7: IllegalStateException if .. there are 60 blocks").wrongState("join(0, 1, 0)").calls("welds() 0");
    }

    private static void promise7Order() {
        pair("promise 7: IndexOutOfBoundsException is named before IllegalStateException")
                .noSuch("join(1, 0, 4)", "join(0, 0, -1)", "join(1, 2, 0)", "join(2, 0, 0)", "join(-1, -1, 0)")
                .calls("scrap(1) 1").noSuch("join(0, 1, 4)", "join(1, 2, 0)").wrongState("join(0, 1, 0)");
        sixty("promise 7: IndexOutOfBoundsException is named first, with 60 blocks")
                .noSuch("join(0, 1, 4)", "join(0, 60, 0)", "join(60, 1, 0)", "join(0, 1, -1)", "join(-1, 1, 0)");
    }

    private static void promise7Afloat() {
        edge("promise 7: Blocks are joined and scrapped also when the ship is afloat").full(10, 10, 10)
                .calls("block(0, 0, 1, 1, 0, 1) 3", "block(1, 1, 1, 1, 0, 1) 4", "paint(12) 1", "paint(13) 2", "launch(0)",
                        "join(3, 4, 1) 5", "welds() 1", "test(0) BAD", "cell(12, 1) 1", "cell(13, 1) 1", "scrap(5) 3");
    }

    // ---- Promise 17

    private static void promise17Blocks() {
        edge("promise 17: how many blocks there are, of all kinds").calls("blocks() 0", "block(0, 0, 0, 1, 0, 8) 0",
                        "blocks() 1", "block(1, 1, 0, 1, 0, 8) 1", "join(0, 1, 0) 2", "blocks() 3", "scrap(2) 3", "blocks() 3")
                .single(0, 0, 1).calls("blocks() 4").wrongState("erect(3, 0)").calls("blocks() 4");
        sixty("promise 17: how many blocks there are, at most 60").calls("blocks() 60")
                .wrongState("block(0, 0, 0, 1, 0, 1)").calls("blocks() 60");
    }

    // ---- Promise 21

    private static void promise21Numbers() {
        edge("promise 21: IndexOutOfBoundsException as told").noSuch("told(0, 0)").calls("block(0, 0, 0, 1, 0, 1) 0",
                        "told(0, 0) LOOSE")
                .noSuch("told(-1, 0)", "told(1, 0)", "told(59, 0)", "told(60, 0)", "told(min, 0)", "told(max, 0)");
    }

    private static void promise21What() {
        edge("promise 21: what: 0 to 7").calls("block(2, 4, 1, 17, 3, 5) 0", "told(0, 0) LOOSE", "told(0, 1) 2",
                        "told(0, 2) 4", "told(0, 3) 1", "told(0, 4) 17", "told(0, 5) 3003", "told(0, 6) 5", "told(0, 7) NONE")
                .wrongArgument("told(0, -1)", "told(0, 8)", "told(0, min)", "told(0, max)");
    }

    private static void promise21Order() {
        edge("promise 21: IndexOutOfBoundsException is named first").calls("block(0, 0, 0, 1, 0, 1) 0")
                .noSuch("told(-1, -1)", "told(1, 8)", "told(60, -1)", "told(min, max)");
    }

    private static void promise21Begins() {
        edge("promise 21: where it begins on the berth, NONE if it is not STANDING")
                .calls("block(0, 0, 0, 1, 0, 8) 0", "block(1, 1, 0, 1, 0, 8) 1", "told(0, 7) NONE", "join(0, 1, 0) 2",
                        "told(2, 7) NONE", "erect(2, 0) 0", "told(2, 7) 0", "told(0, 0) PART", "told(0, 7) NONE", "told(1, 7) NONE")
                .calls("block(11, 11, 0, 1, 0, 8) 3", "erect(3, 0) 0", "told(3, 7) 11000", "block(5, 5, 0, 1, 0, 8) 4",
                        "scrap(4) 1", "told(4, 0) SCRAPPED", "told(4, 7) NONE");
        edge("promise 21: it may begin 1 below 0 and be STANDING").chain(0, 0, 0, 1, 1).single(2, 0, 1)
                .calls("erect(2, 0) 0", "told(2, 0) STANDING", "told(2, 7) -1");
    }
}
