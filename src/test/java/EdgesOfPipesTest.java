/**
 * The boundaries in promises 15 and 24, and in the second half of the document's part "Rooms".
 * Each name quotes the sentence that it holds.
 *
 * What no run of calls can reach:
 * - Promise 15, "if there is no way, or there are 30": both throw the same, so that neither comes first.
 * - Promise 24: "as told, or if place is below 0" both throw the same.
 */
public final class EdgesOfPipesTest {
    private static final Checks CHECKS = new Checks();

    public static void main(String[] args) {
        promise15Rooms();
        promise15BothTheSame();
        promise15Order();
        promise15ByHoles();
        promise15Fewest();
        promise15LowerRoom();
        promise15LowerRoomAtEachSide();
        promise15FromItsBeginningOn();
        promise15ThreeAtMost();
        promise15NoEnd();
        promise15NoWay();
        promise15OneTonEach();
        promise15Thirty();
        promise15ThirtyOrder();
        promise15Afloat();
        promise24Pipes();
        promise24Places();
        CHECKS.end();
    }

    private static Edge edge(String sentence) {
        return new Edge(CHECKS, sentence);
    }

    /** The way of a pipe, and NONE behind it. */
    private static Edge way(Edge edge, int pipe, int... rooms) {
        for (int place = 0; place < rooms.length; place++) {
            edge.calls("roomAt(" + pipe + ", " + place + ") " + rooms[place]);
        }
        return edge.calls("roomAt(" + pipe + ", " + rooms.length + ") NONE", "roomAt(" + pipe + ", max) NONE");
    }

    // ---- Promise 15

    private static void promise15Rooms() {
        edge("promise 15: IndexOutOfBoundsException as told: no room").noSuch("pipe(0, 1)", "pipe(0, 0)", "pipe(35, 34)");
        edge("promise 15: IndexOutOfBoundsException as told").single(0, 0, 1).single(1, 0, 1).calls("hole(0, false)")
                .noSuch("pipe(-1, 0)", "pipe(0, -1)", "pipe(2, 0)", "pipe(0, 2)", "pipe(36, 0)", "pipe(0, 36)", "pipe(0, 12)",
                        "pipe(min, 0)", "pipe(0, min)", "pipe(max, 0)", "pipe(0, max)")
                .calls("pipe(0, 1) 2", "pipe(1, 0) 2");
        edge("promise 15: the last rooms").full(1, 1, 1).calls("hole(34, false)").noSuch("pipe(35, 36)", "pipe(36, 35)")
                .calls("pipe(34, 35) 2", "pipe(35, 34) 2");
    }

    private static void promise15BothTheSame() {
        edge("promise 15: IllegalArgumentException if both are the same").full(1, 1, 1)
                .wrongArgument("pipe(0, 0)", "pipe(35, 35)").calls("hole(0, false)").wrongArgument("pipe(0, 0)");
    }

    private static void promise15Order() {
        edge("promise 15: IndexOutOfBoundsException is named before IllegalArgumentException").row(0, 1)
                .noSuch("pipe(12, 12)", "pipe(-1, -1)", "pipe(36, 36)", "pipe(min, min)", "pipe(max, max)");
        edge("promise 15: IndexOutOfBoundsException is named before IllegalStateException").row(0, 1)
                .noSuch("pipe(0, 12)", "pipe(12, 0)").wrongState("pipe(0, 1)");
        edge("promise 15: IllegalArgumentException is named before IllegalStateException: it has 3").row(0, 1)
                .calls("hole(0, false)", "pipe(0, 1)", "pipe(0, 1)", "pipe(0, 1)").wrongArgument("pipe(0, 0)").wrongState("pipe(0, 1)");
    }

    private static void promise15ByHoles() {
        edge("promise 15: IllegalStateException if there is no way: by holes").full(1, 1, 1)
                .wrongState("pipe(0, 1)", "pipe(1, 0)", "pipe(0, 12)", "pipe(11, 12)", "pipe(0, 35)")
                .calls("hole(0, false)", "hole(2, false)").wrongState("pipe(0, 2)", "pipe(1, 2)", "pipe(0, 3)")
                .calls("pipe(0, 1) 2", "pipe(3, 2) 2", "hole(1, false)", "pipe(0, 3) 4");
    }

    /** Through all 36 rooms: along the level 0, back along the level 1, along the level 2. */
    private static void promise15Fewest() {
        Edge longest = edge("promise 15: over the fewest rooms, both ends counted: 36 at most").full(1, 1, 1);
        int[] rooms = new int[36];
        for (int place = 0; place < 36; place++) {
            rooms[place] = place / 12 == 1 ? 35 - place : place;
        }
        for (int place = 1; place < 36; place++) {
            int lower = Math.min(rooms[place - 1], rooms[place]);
            longest.calls("hole(" + lower + ", " + (rooms[place - 1] + rooms[place] == 2 * lower + 12) + ")");
        }
        longest.calls("pipe(0, 35) 36", "pipe(35, 0) 36", "pipe(0, 11) 12", "tons() 87", "cell(0, 3) 3", "cell(12, 3) 2");
        way(longest, 0, rooms);
        longest.calls("roomAt(1, 0) 35", "roomAt(1, 35) 0", "roomAt(1, 36) NONE");
        longest.wrongState("pipe(1, 35)").calls("hole(22, true)", "pipe(23, 35) 4");
        way(longest, 3, 23, 22, 34, 35);
        edge("promise 15: over the fewest rooms, both ends counted: 2 at least").row(0, 1).calls("hole(0, false)", "pipe(0, 1) 2",
                "roomAt(0, 0) 0", "roomAt(0, 1) 1", "roomAt(0, 2) NONE");
    }

    /** Of the frames 0 to 2 of all levels; in the middle the way first goes along, then up. */
    private static void promise15LowerRoom() {
        Edge grid = edge("promise 15: of several ways it takes that with the lower room where they first differ").full(1, 1, 1);
        for (int frame = 0; frame < 3; frame++) {
            for (int level = 0; level < 3; level++) {
                if (frame < 2) {
                    grid.calls("hole(" + (12 * level + frame) + ", false)");
                }
                if (level < 2) {
                    grid.calls("hole(" + (12 * level + frame) + ", true)");
                }
            }
        }
        way(grid.calls("pipe(0, 26) 5"), 0, 0, 1, 2, 14, 26);
        way(grid.calls("pipe(26, 0) 5"), 1, 26, 14, 2, 1, 0);
        way(grid.calls("pipe(24, 2) 5"), 2, 24, 12, 0, 1, 2);
        grid.wrongState("pipe(0, 26)", "pipe(24, 1)");
        way(grid.calls("pipe(12, 26) 4"), 3, 12, 13, 14, 26);
    }

    private static void promise15LowerRoomAtEachSide() {
        // A ring of the rooms 0, 1, 12, 13: from each to the one across.
        Edge ring = edge("promise 15: the lower room where they first differ: down, ahead, behind, up").full(1, 1, 1)
                .calls("hole(0, false)", "hole(12, false)", "hole(0, true)", "hole(1, true)");
        way(ring.calls("pipe(0, 13) 3"), 0, 0, 1, 13);
        way(ring.calls("pipe(13, 0) 3"), 1, 13, 1, 0);
        way(ring.calls("pipe(12, 1) 3"), 2, 12, 0, 1);
        // A ring of the rooms 0, 1, 2, 14, 13, 12.
        Edge wide = edge("promise 15: the lower room where they first differ: ahead or behind").full(1, 1, 1)
                .calls("hole(0, false)", "hole(1, false)", "hole(12, false)", "hole(13, false)", "hole(0, true)", "hole(2, true)");
        way(wide.calls("pipe(1, 13) 4"), 0, 1, 0, 12, 13);
        way(wide.calls("pipe(13, 1) 4"), 1, 13, 12, 0, 1);
        // A ring of the rooms 0, 1, 13, 25, 24, 12.
        Edge high = edge("promise 15: the lower room where they first differ: down or up").full(1, 1, 1)
                .calls("hole(0, false)", "hole(24, false)", "hole(0, true)", "hole(1, true)", "hole(12, true)", "hole(13, true)");
        way(high.calls("pipe(12, 13) 4"), 0, 12, 0, 1, 13);
        way(high.calls("pipe(13, 12) 4"), 1, 13, 1, 0, 12);
    }

    /** From 1 to 13 it is 0 or 2 at the beginning, and 25 or 14 at the end. */
    private static void promise15FromItsBeginningOn() {
        Edge two = edge("promise 15: where they first differ, from its beginning on").full(1, 1, 1)
                .calls("hole(0, false)", "hole(0, true)", "hole(12, true)", "hole(24, false)", "hole(13, true)")
                .calls("hole(1, false)", "hole(2, false)", "hole(3, true)", "hole(14, false)", "hole(13, false)");
        way(two.calls("pipe(1, 13) 6"), 0, 1, 0, 12, 24, 25, 13);
        way(two.calls("pipe(13, 1) 6"), 1, 13, 14, 15, 3, 2, 1);
        way(edge("promise 15: the fewest rooms come ahead of the lower ones").full(1, 1, 1)
                .calls("hole(12, false)", "hole(13, false)", "hole(0, false)", "hole(1, false)", "hole(0, true)", "hole(2, true)",
                        "pipe(12, 14) 3"), 0, 12, 13, 14);
    }

    private static void promise15ThreeAtMost() {
        edge("promise 15: A room has at most 3 pipes").row(0, 1).calls("hole(0, false)", "hole(1, false)", "pipe(0, 1) 2",
                        "pipe(1, 0) 2", "cell(0, 3) 2", "pipe(0, 1) 2", "cell(0, 3) 3", "cell(1, 3) 3")
                .wrongState("pipe(0, 1)", "pipe(1, 0)").calls("cell(0, 3) 3", "tons() 7");
    }

    private static void promise15NoEnd() {
        edge("promise 15: one that has 3 is no way, nor an end: no end").row(0, 1).calls("hole(0, false)", "hole(1, false)",
                        "hole(2, false)", "pipe(0, 1)", "pipe(0, 1)", "pipe(2, 1) 2")
                .wrongState("pipe(1, 2)", "pipe(2, 1)", "pipe(1, 3)", "pipe(3, 1)")
                .calls("pipe(2, 3) 2", "cell(0, 3) 2", "cell(1, 3) 3", "cell(2, 3) 2");
    }

    private static void promise15NoWay() {
        Edge round = edge("promise 15: one that has 3 is no way, nor an end: no way").row(0, 1).row(1, 1)
                .calls("hole(0, false)", "hole(1, false)", "hole(0, true)", "hole(12, false)", "hole(13, false)", "hole(2, true)",
                        "pipe(1, 0)", "pipe(1, 2)", "pipe(0, 2) 3", "cell(1, 3) 3");
        way(round.calls("pipe(0, 2) 5"), 3, 0, 12, 13, 14, 2);
        round.calls("cell(0, 3) 3", "pipe(12, 13) 2", "pipe(13, 12) 2", "cell(12, 3) 3", "cell(13, 3) 3")
                .wrongState("pipe(14, 12)", "pipe(0, 2)", "pipe(14, 2)");
        edge("promise 15: no way is left through one that has 3").row(0, 1).calls("hole(0, false)", "hole(1, false)",
                        "pipe(0, 2) 3", "pipe(1, 2)", "pipe(1, 0)").wrongState("pipe(0, 2)", "pipe(2, 0)");
    }

    private static void promise15OneTonEach() {
        edge("promise 15: Each room on it gets 1 ton").full(1, 1, 1).calls("tons() 3", "hole(0, false)", "hole(1, false)",
                "pipe(0, 1) 2", "tons() 5", "tonsAnew() 5", "pipe(2, 0) 3", "tons() 8", "tonsAnew() 8", "cell(0, 2) 0", "cell(0, 3) 2");
    }

    /** Ten pairs of rooms, one above the other, with three pipes each. */
    private static Edge thirty(String sentence) {
        Edge full = edge(sentence).row(0, 1).row(1, 1);
        for (int frame = 0; frame < 12; frame++) {
            full.calls("hole(" + frame + ", true)");
        }
        for (int pipe = 0; pipe < 30; pipe++) {
            full.calls("pipe(" + pipe / 3 + ", " + (12 + pipe / 3) + ") 2");
        }
        return full;
    }

    private static void promise15Thirty() {
        thirty("promise 15: pipes are numbered from 0, at most 30").calls("roomAt(0, 0) 0", "roomAt(29, 0) 9", "roomAt(29, 1) 21",
                        "roomAt(29, 2) NONE", "tons() 62")
                .wrongState("pipe(11, 23)", "pipe(10, 22)").noSuch("roomAt(30, 0)").calls("cell(11, 3) 0", "tons() 62");
    }

    private static void promise15ThirtyOrder() {
        thirty("promise 15: the others are named before IllegalStateException, with 30").noSuch("pipe(11, 24)", "pipe(36, 0)",
                "pipe(24, 24)").wrongArgument("pipe(11, 11)", "pipe(0, 0)");
    }

    private static void promise15Afloat() {
        edge("promise 15: pipes are laid also when the ship is afloat").full(10, 10, 10).calls("hole(0, true)", "launch(0)",
                "pipe(0, 12) 2", "cell(0, 3) 1").wrongState("pipe(0, 1)");
    }

    // ---- Promise 24

    private static void promise24Pipes() {
        edge("promise 24: IndexOutOfBoundsException as told, without pipes").row(0, 1)
                .noSuch("roomAt(0, 0)", "roomAt(-1, 0)", "roomAt(0, -1)", "roomAt(29, 0)");
        edge("promise 24: IndexOutOfBoundsException as told").row(0, 1).calls("hole(0, false)", "pipe(0, 1)", "roomAt(0, 0) 0")
                .noSuch("roomAt(-1, 0)", "roomAt(1, 0)", "roomAt(29, 0)", "roomAt(30, 0)", "roomAt(min, 0)", "roomAt(max, 0)");
    }

    private static void promise24Places() {
        edge("promise 24: place: 0 for the first one. NONE behind the last one").row(0, 1).calls("hole(4, false)",
                        "hole(5, false)", "pipe(6, 4) 3", "roomAt(0, 0) 6", "roomAt(0, 1) 5", "roomAt(0, 2) 4", "roomAt(0, 3) NONE",
                        "roomAt(0, 36) NONE", "roomAt(0, max) NONE")
                .noSuch("roomAt(0, -1)", "roomAt(0, min)", "roomAt(1, -1)", "roomAt(-1, -1)");
    }
}
