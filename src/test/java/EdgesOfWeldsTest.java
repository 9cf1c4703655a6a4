/**
 * The boundaries in promises 9, 10, 11, 18 and 22, and in the document's part "Welds".
 * Each name quotes the sentence that it holds.
 *
 * What no run of calls can reach:
 * - "Welds are numbered from 0, at most 100": no run makes more than 62, as EdgesOfBlocksTest tells.
 * - Promise 11, "it is not BAD .. or the ship is afloat", for a weld of a STANDING block: afloat all of these are
 *   GOOD. A BAD one is of a LOOSE block then, or of a SCRAPPED one.
 * - Promises 9 and 10: one argument only, so that the two exceptions never apply together.
 */
public final class EdgesOfWeldsTest {
    private static final Checks CHECKS = new Checks();

    public static void main(String[] args) {
        promise9Numbers();
        promise9OnlyLoose();
        promise9HowMany();
        promise9Afloat();
        promise10Numbers();
        promise10OnlyUntested();
        promise10Scrapped();
        promise10GoodOrBad();
        promise11Numbers();
        promise11Welders();
        promise11OnlyBad();
        promise11TwiceAtMost();
        promise11Scrapped();
        promise11Afloat();
        promise11Order();
        promise11Flaws();
        promise11PaintOnTheBerth();
        promise11PaintOfTheHall();
        promise18Welds();
        promise18Most();
        promise22Numbers();
        promise22What();
        promise22Order();
        promise22FrameBehind();
        CHECKS.end();
    }

    private static Edge edge(String sentence) {
        return new Edge(CHECKS, sentence);
    }

    /** Block 2 is joined of 0 and 1 at the frames 0 and 1; its weld is flawed. */
    private static Edge flawed(String sentence) {
        return edge(sentence).eager()
                .calls("block(0, 0, 0, 1, 0, 1) 0", "block(1, 1, 0, 1, 0, 1) 1", "join(0, 1, 1) 2", "weld(0, 0) UNTESTED");
    }

    /** The same for the levels of a ship that is afloat: block 5 is LOOSE, its weld 0 is flawed. */
    private static Edge flawedAfloat(String sentence) {
        return edge(sentence).full(10, 10, 10)
                .calls("block(0, 0, 0, 1, 0, 1) 3", "block(1, 1, 0, 1, 0, 1) 4", "join(3, 4, 1) 5", "launch(0)");
    }

    // ---- Promise 9

    private static void promise9Numbers() {
        edge("promise 9: IndexOutOfBoundsException as told").noSuch("scrap(0)").calls("block(0, 0, 0, 1, 0, 1) 0")
                .noSuch("scrap(-1)", "scrap(1)", "scrap(59)", "scrap(60)", "scrap(min)", "scrap(max)").calls("scrap(0) 1");
    }

    private static void promise9OnlyLoose() {
        edge("promise 9: IllegalStateException if it is not LOOSE").calls("block(0, 0, 0, 1, 0, 1) 0",
                        "block(1, 1, 0, 1, 0, 1) 1", "join(0, 1, 0) 2")
                .wrongState("scrap(0)", "scrap(1)").calls("erect(2, 0)").wrongState("scrap(2)", "scrap(0)", "scrap(1)")
                .calls("block(2, 2, 0, 1, 0, 1) 3", "scrap(3) 1").wrongState("scrap(3)").calls("told(3, 0) SCRAPPED");
    }

    private static void promise9HowMany() {
        edge("promise 9: how many blocks are SCRAPPED by that: one").calls("block(0, 0, 0, 1, 0, 1) 0",
                "block(0, 0, 0, 1, 0, 1) 1", "scrap(0) 1", "told(0, 0) SCRAPPED", "told(1, 0) LOOSE");
        Edge all = edge("promise 9: A block is scrapped with all of which it is made: 12 of a frame, and 11 joined")
                .eager().chain(0, 0, 0, 1, 1, 1, 1, 1, 1, 1, 1, 1, 1, 1, 1)
                .calls("block(0, 0, 0, 1, 0, 1) 23", "told(22, 2) 11", "scrap(22) 23", "told(23, 0) LOOSE", "blocks() 24");
        for (int block = 0; block < 23; block++) {
            all.calls("told(" + block + ", 0) SCRAPPED");
        }
        all.wrongState("scrap(0)", "scrap(21)").calls("welds() 11", "money() -220");
        edge("promise 9: .. of which it is made, and no other").chain(0, 0, 0, 1, 1).chain(2, 0, 0, 1, 1)
                .calls("scrap(2) 3", "told(5, 0) LOOSE", "told(3, 0) PART", "scrap(5) 3");
    }

    private static void promise9Afloat() {
        flawedAfloat("promise 9: Blocks are joined and scrapped also when the ship is afloat").calls("scrap(5) 3");
    }

    // ---- Promise 10

    private static void promise10Numbers() {
        edge("promise 10: IndexOutOfBoundsException as told, without welds").noSuch("test(0)", "test(-1)");
        flawed("promise 10: IndexOutOfBoundsException as told")
                .noSuch("test(-1)", "test(1)", "test(99)", "test(100)", "test(min)", "test(max)").calls("test(0) BAD");
    }

    private static void promise10OnlyUntested() {
        flawed("promise 10: IllegalStateException if it is not UNTESTED: BAD").calls("test(0) BAD").wrongState("test(0)")
                .calls("weld(0, 0) BAD", "repair(0, 0) 1", "weld(0, 0) UNTESTED", "test(0) GOOD").wrongState("test(0)");
        edge("promise 10: IllegalStateException if it is not UNTESTED: GOOD").eager().single(0, 0, 1).single(1, 0, 1)
                .calls("test(0) GOOD").wrongState("test(0)").calls("weld(0, 0) GOOD");
    }

    private static void promise10Scrapped() {
        flawed("promise 10: IllegalStateException if it is .. of a SCRAPPED block").calls("scrap(2) 3").wrongState("test(0)")
                .calls("weld(0, 0) UNTESTED");
        flawed("promise 10: .. of a SCRAPPED block that was a part of another one").calls("block(2, 2, 0, 1, 0, 1) 3",
                "join(2, 3, 0) 4", "scrap(4) 5").wrongState("test(0)", "test(1)");
        flawed("promise 10: a weld of another block is not of the SCRAPPED one").calls("block(2, 2, 0, 1, 0, 1) 3",
                "scrap(3) 1", "test(0) BAD");
    }

    private static void promise10GoodOrBad() {
        edge("promise 10: Returns GOOD or BAD, of a weld on the berth").eager().calls("welder(2, 39)", "welder(3, 38)")
                .single(0, 0, 1).calls("block(1, 1, 0, 1, 0, 1) 1", "draw(1)", "erect(1, 2)", "test(0) BAD", "weld(0, 0) BAD",
                        "block(2, 2, 0, 1, 0, 1) 2", "draw(1)", "erect(2, 3)", "test(1) GOOD", "weld(1, 0) GOOD", "money() 260");
        flawedAfloat("promise 10: tested when afloat").calls("test(0) BAD");
    }

    // ---- Promise 11

    private static void promise11Numbers() {
        edge("promise 11: IndexOutOfBoundsException as told, without welds").noSuch("repair(0, 0)", "repair(-1, 0)");
        flawed("promise 11: IndexOutOfBoundsException as told, of the weld").calls("test(0) BAD")
                .noSuch("repair(-1, 0)", "repair(1, 0)", "repair(99, 0)", "repair(100, 0)", "repair(min, 0)", "repair(max, 0)")
                .calls("repair(0, 0) 1");
    }

    private static void promise11Welders() {
        flawed("promise 11: IndexOutOfBoundsException as told, of the welder").calls("test(0) BAD")
                .noSuch("repair(0, -1)", "repair(0, 4)", "repair(0, min)", "repair(0, max)").calls("repair(0, 3) 1");
    }

    private static void promise11OnlyBad() {
        flawed("promise 11: IllegalStateException if it is not BAD: UNTESTED").wrongState("repair(0, 0)").calls("test(0) BAD",
                        "repair(0, 1) 1").wrongState("repair(0, 0)").calls("test(0) BAD", "repair(0, 0) 2", "test(0) GOOD")
                .wrongState("repair(0, 0)");
        edge("promise 11: IllegalStateException if it is not BAD: GOOD").eager().single(0, 0, 1).single(1, 0, 1)
                .wrongState("repair(0, 0)").calls("test(0) GOOD").wrongState("repair(0, 0)").calls("weld(0, 1) 0");
    }

    private static void promise11TwiceAtMost() {
        flawed("promise 11: A BAD one can be repaired, twice at most").calls("money() -20", "test(0) BAD", "weld(0, 1) 0",
                        "repair(0, 1) 1", "weld(0, 1) 1", "money() -50", "test(0) BAD", "repair(0, 1) 2", "weld(0, 1) 2",
                        "money() -80", "test(0) BAD")
                .wrongState("repair(0, 0)").calls("weld(0, 0) BAD", "weld(0, 1) 2", "money() -80");
    }

    private static void promise11Scrapped() {
        flawed("promise 11: IllegalStateException if it is .. of a SCRAPPED block").calls("test(0) BAD", "scrap(2) 3")
                .wrongState("repair(0, 0)");
        flawed("promise 11: .. of a SCRAPPED block that was a part of another one").calls("test(0) BAD",
                "block(2, 2, 0, 1, 0, 1) 3", "join(2, 3, 0) 4", "scrap(4) 5").wrongState("repair(0, 0)");
    }

    private static void promise11Afloat() {
        flawedAfloat("promise 11: IllegalStateException if .. the ship is afloat").calls("test(0) BAD")
                .wrongState("repair(0, 0)").calls("weld(0, 0) BAD");
    }

    private static void promise11Order() {
        flawed("promise 11: IndexOutOfBoundsException is named first: not BAD")
                .noSuch("repair(0, 4)", "repair(0, -1)", "repair(1, 0)");
        flawed("promise 11: IndexOutOfBoundsException is named first: of a SCRAPPED block").calls("test(0) BAD", "scrap(2) 3")
                .noSuch("repair(0, 4)", "repair(1, 0)");
        flawed("promise 11: IndexOutOfBoundsException is named first: repaired twice")
                .calls("test(0) BAD", "repair(0, 1) 1", "test(0) BAD", "repair(0, 1) 2", "test(0) BAD")
                .noSuch("repair(0, 4)", "repair(1, 0)");
        flawedAfloat("promise 11: IndexOutOfBoundsException is named first: afloat").calls("test(0) BAD")
                .noSuch("repair(0, 4)", "repair(1, 0)");
    }

    private static void promise11Flaws() {
        // From 1 on 38 of a hundred is drawn.
        repairedWith(38, "GOOD");
        repairedWith(39, "BAD");
    }

    private static void repairedWith(int flaws, String due) {
        flawed("promise 11: When it is .. repaired, .. it is flawed, if (x >>> 16) modulo 100 is below the flaws")
                .calls("test(0) BAD", "welder(2, " + flaws + ") 10", "draw(1)", "repair(0, 2) 1", "weld(0, 0) UNTESTED",
                        "draw(1) 1103527590", "test(0) " + due);
    }

    private static void promise11PaintOnTheBerth() {
        edge("promise 11: hot work .. when a weld is .. repaired, between the last room of the one and the first of the other")
                .eager().standing(0, 1, 0, 1).calls("block(2, 3, 0, 1, 0, 1) 1", "erect(1, 1)", "paint(0) 1", "paint(1) 2",
                        "paint(2) 3", "paint(3) 4", "fit(1, 5) 5", "fit(2, 6) 6", "test(0) BAD", "cell(1, 1) 1",
                        "repair(0, 0) 1", "cell(0, 1) 1", "cell(1, 1) 0", "cell(2, 1) 0", "cell(3, 1) 1", "cell(1, 2) 5",
                        "cell(2, 2) 6");
        edge("promise 11: hot work at the last frame of the highest level").eager().row(0, 1).row(1, 1).standing(0, 10, 2, 1)
                .calls("block(11, 11, 2, 1, 0, 1) 3", "erect(3, 1)", "paint(33) 1", "paint(34) 2", "paint(35) 3", "paint(23) 4",
                        "test(0) BAD", "repair(0, 1) 1", "cell(33, 1) 1", "cell(34, 1) 0", "cell(35, 1) 0", "cell(23, 1) 1");
    }

    private static void promise11PaintOfTheHall() {
        flawed("promise 11: (for one that was made in the hall, when its rooms stand)").calls("test(0) BAD", "erect(2, 0)",
                "paint(0) 1", "paint(1) 2", "repair(0, 0) 1", "cell(0, 1) 0", "cell(1, 1) 0");
        flawed("promise 11: .. when its rooms stand, those of a part").calls("block(2, 2, 0, 1, 0, 1) 3", "join(2, 3, 0) 4",
                "test(0) BAD", "erect(4, 0)", "paint(0) 1", "paint(1) 2", "paint(2) 3", "repair(0, 0) 1", "cell(0, 1) 0",
                "cell(1, 1) 0", "cell(2, 1) 1");
        flawed("promise 11: .. its rooms: they do not stand, though others fill the cells").calls("test(0) BAD")
                .standing(0, 1, 0, 1).calls("paint(0) 1", "paint(1) 2", "repair(0, 0) 1", "cell(0, 1) 1", "cell(1, 1) 1");
        flawed("promise 11: .. when its rooms stand: there are none yet").calls("test(0) BAD", "repair(0, 0) 1", "cell(0, 1) 0");
    }

    // ---- Promise 18

    private static void promise18Welds() {
        edge("promise 18: how many welds there are").calls("welds() 0").single(0, 0, 1).calls("welds() 0").single(1, 0, 1)
                .calls("welds() 1").single(3, 0, 1).calls("welds() 1").single(2, 0, 1).calls("welds() 3")
                .calls("block(0, 0, 0, 1, 0, 1) 4", "block(1, 1, 0, 1, 0, 1) 5", "join(4, 5, 0) 6", "welds() 4", "scrap(6) 3",
                        "welds() 4").wrongState("join(4, 5, 0)").calls("welds() 4");
    }

    /** 36 blocks of a frame stand with 33 welds; of the 24 that are left 12 are built and joined by 11. */
    private static void promise18Most() {
        Edge most = edge("promise 18: Welds are numbered from 0, as many as can be made").eager();
        for (int cell = 0; cell < 36; cell++) {
            most.single(cell % 12, cell / 12, 1);
        }
        most.calls("welds() 33", "blocks() 36").chain(0, 0, 0, 1, 1, 1, 1, 1, 1, 1, 1, 1, 1, 1, 1);
        most.calls("welds() 44", "blocks() 59", "weld(0, 2) 1", "weld(0, 3) 0", "weld(32, 2) 11", "weld(32, 3) 2",
                "weld(43, 2) 11", "weld(43, 3) 0", "test(43) GOOD", "test(0) GOOD", "money() 2720", "moneyAnew() 2720");
        most.noSuch("weld(44, 0)", "test(44)", "repair(44, 0)");
    }

    // ---- Promise 22

    private static void promise22Numbers() {
        edge("promise 22: IndexOutOfBoundsException as told, without welds").noSuch("weld(0, 0)", "weld(-1, 0)");
        flawed("promise 22: IndexOutOfBoundsException as told").calls("weld(0, 0) UNTESTED")
                .noSuch("weld(-1, 0)", "weld(1, 0)", "weld(99, 0)", "weld(100, 0)", "weld(min, 0)", "weld(max, 0)");
    }

    private static void promise22What() {
        flawed("promise 22: what: 0 to 3").calls("weld(0, 0) UNTESTED", "weld(0, 1) 0", "weld(0, 2) 1", "weld(0, 3) 0")
                .wrongArgument("weld(0, -1)", "weld(0, 4)", "weld(0, min)", "weld(0, max)");
    }

    private static void promise22Order() {
        flawed("promise 22: IndexOutOfBoundsException is named first")
                .noSuch("weld(-1, -1)", "weld(1, 4)", "weld(100, -1)", "weld(min, max)");
    }

    private static void promise22FrameBehind() {
        edge("promise 22: the first one of the block behind: 1 at least, 11 at most").calls("hall(12, 1000)",
                "block(0, 0, 0, 1, 0, 1) 0", "block(1, 11, 0, 1, 0, 1) 1", "join(0, 1, 0) 2", "weld(0, 2) 1", "weld(0, 3) 0",
                "block(0, 10, 2, 1, 0, 1) 3", "block(11, 11, 2, 1, 0, 1) 4", "join(3, 4, 0) 5", "weld(1, 2) 11", "weld(1, 3) 2");
        flawed("promise 22: UNTESTED to BAD, and how often it was repaired, of a SCRAPPED block still").calls("test(0) BAD",
                "repair(0, 1) 1", "test(0) BAD", "repair(0, 1) 2", "test(0) BAD", "scrap(2) 3", "weld(0, 0) BAD", "weld(0, 1) 2",
                "weld(0, 2) 1", "weld(0, 3) 0");
    }
}
