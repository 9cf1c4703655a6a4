/**
 * The boundaries in promises 12, 13, 14 and 23, and in the first half of the document's part "Rooms".
 * Each name quotes the sentence that it holds.
 *
 * What no run of calls can reach:
 * - Promise 12, "if there is one": together with IndexOutOfBoundsException, for a hole is between two rooms, and a
 *   room that stands once stands for good.
 * - Promise 13: one argument only, so that the two exceptions never apply together.
 */
public final class EdgesOfRoomsTest {
    private static final Checks CHECKS = new Checks();

    public static void main(String[] args) {
        promise12Rooms();
        promise12BothRooms();
        promise12Ends();
        promise12ThereIsOne();
        promise12Afloat();
        promise12Order();
        promise12Painted();
        promise12HotWork();
        promise13Rooms();
        promise13OnlyBare();
        promise13HowMany();
        promise14Rooms();
        promise14Tons();
        promise14OnlyPainted();
        promise14NotMoreThan300();
        promise14Order();
        promise14Afloat();
        promise23Cells();
        promise23What();
        promise23Order();
        promise23Filled();
        promise23Holes();
        CHECKS.end();
    }

    private static Edge edge(String sentence) {
        return new Edge(CHECKS, sentence);
    }

    // ---- Promise 12

    private static void promise12Rooms() {
        edge("promise 12: a room is any cell that is filled: none is").noSuch("hole(0, false)", "hole(0, true)", "hole(35, true)");
        edge("promise 12: IndexOutOfBoundsException as told: the first room and the last ones").full(1, 1, 1)
                .noSuch("hole(-1, false)", "hole(-1, true)", "hole(36, false)", "hole(36, true)", "hole(-12, true)",
                        "hole(min, false)", "hole(min, true)", "hole(max, false)", "hole(max, true)")
                .calls("hole(0, false) 0", "hole(0, true) 0", "hole(34, false) 0", "hole(23, true) 0");
    }

    private static void promise12BothRooms() {
        edge("promise 12: IndexOutOfBoundsException as told, of both rooms").row(0, 1).standing(3, 5, 1, 1)
                .noSuch("hole(14, false)", "hole(17, false)", "hole(18, false)", "hole(2, true)", "hole(6, true)",
                        "hole(15, true)", "hole(27, true)")
                .calls("hole(15, false) 0", "hole(16, false) 0", "hole(3, true) 0", "hole(5, true) 0");
    }

    /** Rooms 11 and 12, and 23 and 24, have numbers beside each other, and are not. */
    private static void promise12Ends() {
        edge("promise 12: two rooms beside each other, along a level or one above the other").full(1, 1, 1)
                .noSuch("hole(11, false)", "hole(23, false)", "hole(35, false)", "hole(24, true)", "hole(30, true)", "hole(35, true)")
                .calls("hole(10, false) 0", "hole(22, false) 0", "hole(12, true) 0", "hole(11, true) 0", "cell(11, 4) 9",
                        "cell(12, 4) 8", "cell(24, 4) 4", "cell(23, 4) 5");
    }

    private static void promise12ThereIsOne() {
        edge("promise 12: IllegalStateException if there is one").row(0, 1).row(1, 1).calls("hole(0, false) 0")
                .wrongState("hole(0, false)").calls("hole(0, true) 0", "hole(1, false) 0")
                .wrongState("hole(0, true)", "hole(0, false)", "hole(1, false)").calls("paint(0) 1", "paint(1) 2")
                .wrongState("hole(0, false)").calls("cell(0, 1) 1", "cell(1, 1) 1");
    }

    private static void promise12Afloat() {
        edge("promise 12: IllegalStateException if .. the ship is afloat").full(10, 10, 10)
                .calls("hole(0, false) 0", "paint(5) 1", "launch(0)")
                .wrongState("hole(5, false)", "hole(5, true)", "hole(0, false)", "hole(0, true)").calls("cell(5, 1) 1", "cell(0, 4) 2");
    }

    private static void promise12Order() {
        edge("promise 12: IndexOutOfBoundsException is named first, afloat").afloat()
                .noSuch("hole(-1, false)", "hole(36, true)", "hole(11, false)", "hole(24, true)", "hole(35, true)");
    }

    private static void promise12Painted() {
        edge("promise 12: how many of both rooms were painted: 0 to 2").row(0, 1).row(1, 1).calls("hole(0, false) 0",
                        "paint(0) 1", "hole(0, true) 1", "cell(0, 1) 0", "paint(13) 1", "hole(1, true) 1", "cell(13, 1) 0")
                .calls("paint(1) 1", "paint(2) 2", "hole(1, false) 2", "cell(1, 1) 0", "cell(2, 1) 0", "paint(14) 1",
                        "paint(2) 2", "hole(2, true) 2", "paint(14) 1");
    }

    private static void promise12HotWork() {
        edge("promise 12: the paint of both is spoiled, what is in them stays").row(0, 1).row(1, 1).calls("paint(0) 1",
                "paint(1) 2", "paint(2) 3", "paint(12) 4", "paint(13) 5", "fit(0, 100) 100", "fit(1, 1) 1", "hole(0, false) 2",
                "cell(0, 1) 0", "cell(1, 1) 0", "cell(2, 1) 1", "cell(12, 1) 1", "cell(13, 1) 1", "cell(0, 2) 100",
                "cell(1, 2) 1", "tons() 103");
    }

    // ---- Promise 13

    private static void promise13Rooms() {
        edge("promise 13: IndexOutOfBoundsException as told").noSuch("paint(0)").single(0, 0, 1)
                .noSuch("paint(-1)", "paint(1)", "paint(12)", "paint(35)", "paint(36)", "paint(min)", "paint(max)")
                .calls("paint(0) 1");
        edge("promise 13: the last room").full(1, 1, 1).noSuch("paint(36)", "paint(-1)").calls("paint(35) 1", "paint(0) 2");
    }

    private static void promise13OnlyBare() {
        edge("promise 13: IllegalStateException if it is painted").row(0, 1).calls("paint(3) 1").wrongState("paint(3)")
                .calls("hole(3, false) 1", "paint(3) 1").wrongState("paint(3)").calls("paint(4) 2");
        edge("promise 13: A cell that is filled is a room, bare at first").full(1, 1, 1)
                .calls("cell(0, 1) 0", "cell(35, 1) 0", "paint(35) 1").wrongState("paint(35)", "fit(0, 1)");
        edge("promise 13: painted, also when afloat").afloat().calls("paint(0) 1").wrongState("paint(0)");
    }

    private static void promise13HowMany() {
        Edge all = edge("promise 13: how many rooms are painted then: 1 to 36").full(1, 1, 1);
        for (int room = 35; room >= 0; room--) {
            all.calls("paint(" + room + ") " + (36 - room));
        }
        all.wrongState("paint(35)", "paint(0)").calls("hole(34, false) 2", "paint(34) 35", "paint(35) 36");
    }

    // ---- Promise 14

    private static void promise14Rooms() {
        edge("promise 14: IndexOutOfBoundsException as told").noSuch("fit(0, 1)").single(0, 0, 1).calls("paint(0) 1")
                .noSuch("fit(-1, 1)", "fit(1, 1)", "fit(12, 1)", "fit(36, 1)", "fit(min, 1)", "fit(max, 1)").calls("fit(0, 1) 1");
        edge("promise 14: the last room").full(1, 1, 1).calls("paint(35) 1").noSuch("fit(36, 1)").calls("fit(35, 1) 1");
    }

    private static void promise14Tons() {
        edge("promise 14: tons: 1 to 100").single(0, 0, 1).calls("paint(0) 1", "fit(0, 1) 1", "fit(0, 100) 101")
                .wrongArgument("fit(0, 0)", "fit(0, 101)", "fit(0, -1)", "fit(0, min)", "fit(0, max)").calls("cell(0, 2) 101");
    }

    private static void promise14OnlyPainted() {
        edge("promise 14: IllegalStateException if it is not painted").row(0, 1).wrongState("fit(0, 1)")
                .calls("paint(0) 1", "fit(0, 1) 1", "hole(0, false) 1").wrongState("fit(0, 1)")
                .calls("cell(0, 2) 1", "paint(0) 1", "fit(0, 1) 2").wrongState("fit(1, 1)");
    }

    private static void promise14NotMoreThan300() {
        edge("promise 14: IllegalStateException if .. there would be more than 300").single(0, 0, 1)
                .calls("paint(0) 1", "fit(0, 100) 100", "fit(0, 100) 200", "fit(0, 99) 299").wrongState("fit(0, 2)", "fit(0, 100)")
                .calls("fit(0, 1) 300").wrongState("fit(0, 1)", "fit(0, 100)").calls("cell(0, 2) 300", "tons() 301");
        edge("promise 14: 300 by hundreds, 301 by one more").single(0, 0, 1)
                .calls("paint(0) 1", "fit(0, 100) 100", "fit(0, 1) 101", "fit(0, 100) 201").wrongState("fit(0, 100)")
                .calls("fit(0, 99) 300");
        edge("promise 14: the tons of things in it: those in other rooms, and pipes, do not count").eager().row(0, 1)
                .calls("hole(0, false)", "pipe(0, 1) 2", "pipe(0, 1) 2", "pipe(1, 0) 2", "paint(0)", "paint(1)", "fit(0, 100) 100",
                        "fit(0, 100) 200", "fit(0, 100) 300", "fit(1, 100) 100", "fit(1, 100) 200", "fit(1, 100) 300");
    }

    private static void promise14Order() {
        edge("promise 14: IndexOutOfBoundsException is named first").single(0, 0, 1)
                .noSuch("fit(-1, 0)", "fit(1, 0)", "fit(36, 101)", "fit(35, min)", "fit(max, max)");
        edge("promise 14: IllegalArgumentException is named before IllegalStateException").single(0, 0, 1)
                .wrongArgument("fit(0, 0)", "fit(0, 101)").calls("paint(0) 1", "fit(0, 100)", "fit(0, 100)", "fit(0, 100)")
                .wrongArgument("fit(0, 0)", "fit(0, 101)").wrongState("fit(0, 1)");
    }

    private static void promise14Afloat() {
        edge("promise 14: things are put in also when the ship is afloat").afloat().wrongState("fit(0, 1)")
                .calls("paint(0) 1", "fit(0, 100) 100", "tons() 130", "isAfloat() true");
    }

    // ---- Promise 23

    private static void promise23Cells() {
        edge("promise 23: IndexOutOfBoundsException as told").calls("cell(0, 0) NONE", "cell(35, 0) NONE")
                .noSuch("cell(-1, 0)", "cell(36, 0)", "cell(min, 0)", "cell(max, 0)");
    }

    private static void promise23What() {
        edge("promise 23: what: 0 to 4").calls("cell(0, 0) NONE", "cell(0, 4) 0")
                .wrongArgument("cell(0, -1)", "cell(0, 5)", "cell(35, -1)", "cell(35, 5)", "cell(0, min)", "cell(0, max)")
                .single(0, 0, 1).calls("cell(0, 0) 0", "cell(0, 4) 0").wrongArgument("cell(0, -1)", "cell(0, 5)");
    }

    private static void promise23Order() {
        edge("promise 23: IndexOutOfBoundsException is named first")
                .noSuch("cell(-1, -1)", "cell(36, 5)", "cell(36, -1)", "cell(min, max)");
    }

    private static void promise23Filled() {
        edge("promise 23: the cell of a frame and a level has the number 12 * level + frame").row(0, 1).row(1, 1)
                .standing(1, 10, 2, 1).calls("cell(0, 0) 0", "cell(11, 0) 0", "cell(12, 0) 1", "cell(23, 0) 1", "cell(24, 0) NONE",
                        "cell(25, 0) 2", "cell(34, 0) 2", "cell(35, 0) NONE");
        edge("promise 23: the STANDING block that fills it: no other kind").calls("block(0, 0, 0, 1, 0, 1) 0",
                "block(1, 1, 0, 1, 0, 1) 1", "cell(0, 0) NONE", "join(0, 1, 0) 2", "cell(0, 0) NONE", "erect(2, 0)",
                "cell(0, 0) 2", "cell(1, 0) 2", "cell(2, 0) NONE", "block(2, 2, 0, 1, 0, 1) 3", "scrap(3)", "cell(2, 0) NONE");
    }

    private static void promise23Holes() {
        edge("promise 23: its holes, together: 1 to the frame ahead, 2 to the one behind, 4 down, 8 up").full(1, 1, 1)
                .calls("cell(13, 4) 0", "hole(12, false)", "cell(13, 4) 1", "hole(13, false)", "cell(13, 4) 3", "hole(1, true)",
                        "cell(13, 4) 7", "hole(13, true)", "cell(13, 4) 15", "cell(12, 4) 2", "cell(14, 4) 1", "cell(1, 4) 8",
                        "cell(25, 4) 4", "cell(0, 4) 0", "cell(24, 4) 0");
        edge("promise 23: 1 whether it is painted, 2 the tons of things in it, 3 how many pipes go through it").full(1, 1, 1)
                .calls("hole(34, false)", "pipe(34, 35) 2", "pipe(34, 35) 2", "pipe(35, 34) 2", "cell(35, 3) 3", "cell(34, 3) 3",
                        "cell(33, 3) 0", "paint(35)", "fit(35, 100)", "fit(35, 100)", "fit(35, 100)", "cell(35, 2) 300",
                        "cell(35, 1) 1", "cell(34, 1) 0", "cell(34, 2) 0", "cell(0, 1) 0");
    }
}
