/** Promises 1 to 5: a new object, and what is told. */
public final class HallTest {
    private static final Checks CHECKS = new Checks();

    public static void main(String[] args) {
        newObject();
        hallTellsFramesBefore();
        hallBoundsJoins();
        craneTellsTonsBefore();
        craneLifts();
        welderTellsFlawsBefore();
        welderCountsFromThenOn();
        drawTellsWhatItWas();
        CHECKS.end();
    }

    // Promise 1
    private static void newObject() {
        Yard yard = new Yard();
        CHECKS.due("blocks of a new yard", yard.blocks(), 0);
        CHECKS.due("welds of a new yard", yard.welds(), 0);
        CHECKS.holds("a new ship is not afloat", !yard.isAfloat());
        for (int cell = 0; cell < 36; cell++) {
            CHECKS.due("block in cell " + cell, yard.cell(cell, 0), Stowfinish.NONE);
            for (int what = 1; what <= 4; what++) {
                CHECKS.due("cell " + cell + ", " + what, yard.cell(cell, what), 0);
            }
        }
        CHECKS.due("tons of a new yard", yard.tons(), 0);
        CHECKS.due("money of a new yard", yard.money(), 0);
        CHECKS.due("door at first", yard.hall(6, 300), 6);
        CHECKS.due("crane at first", yard.crane(0, 200), 200);
        CHECKS.due("x at first", yard.draw(1), 1);
        for (int welder = 0; welder < 4; welder++) {
            CHECKS.due("flaws at first", yard.welder(welder, 10), 10);
        }
        Yard other = new Yard();
        yard.block(0, 0, 0, 1, 0, 1);
        CHECKS.due("blocks of another yard", other.blocks(), 0);
    }

    // Promise 2
    private static void hallTellsFramesBefore() {
        Yard yard = new Yard();
        CHECKS.due("hall(1, 1)", yard.hall(1, 1), 6);
        CHECKS.due("hall(12, 1000)", yard.hall(12, 1000), 1);
        CHECKS.due("hall(7, 9)", yard.hall(7, 9), 12);
        CHECKS.wrongArgument("hall(0, 9)", yard, () -> yard.hall(0, 9));
        CHECKS.wrongArgument("hall(13, 9)", yard, () -> yard.hall(13, 9));
        CHECKS.wrongArgument("hall(1, 0)", yard, () -> yard.hall(1, 0));
        CHECKS.wrongArgument("hall(1, 1001)", yard, () -> yard.hall(1, 1001));
        CHECKS.due("hall after wrong ones", yard.hall(6, 300), 7);
    }

    private static void hallBoundsJoins() {
        hallAtFirst();
        Yard yard = new Yard();
        yard.block(0, 3, 0, 100, 0, 8);
        yard.block(4, 6, 0, 100, 0, 8);
        CHECKS.wrongState("7 frames through a door of 6", yard, () -> yard.join(0, 1, 0));
        yard.hall(7, 200);
        CHECKS.wrongState("201 tons in a hall for 200", yard, () -> yard.join(0, 1, 0));
        CHECKS.wrongArgument("hall(7, 2000)", yard, () -> yard.hall(7, 2000));
        CHECKS.wrongArgument("hall(70, 201)", yard, () -> yard.hall(70, 201));
        CHECKS.wrongState("201 tons, still", yard, () -> yard.join(0, 1, 0));
        yard.hall(7, 201);
        CHECKS.due("7 frames, 201 tons", yard.join(0, 1, 0), 2);
        yard.hall(1, 1);
        CHECKS.due("a block that is built is not asked", yard.block(0, 11, 1, 200, 0, 8), 3);
    }

    private static void hallAtFirst() {
        Yard yard = new Yard();
        yard.block(0, 2, 0, 150, 0, 8);
        yard.block(3, 5, 0, 150, 0, 8);
        CHECKS.wrongState("301 tons at first", yard, () -> yard.join(0, 1, 0));
        yard.block(3, 5, 0, 149, 0, 8);
        CHECKS.due("6 frames and 300 tons at first", yard.join(0, 2, 0), 3);
    }

    // Promise 3
    private static void craneTellsTonsBefore() {
        Yard yard = new Yard();
        CHECKS.due("crane(11, 1)", yard.crane(11, 1), 200);
        CHECKS.due("crane(0, 1000)", yard.crane(0, 1000), 1);
        CHECKS.noSuch("crane(-1, 5)", yard, () -> yard.crane(-1, 5));
        CHECKS.noSuch("crane(12, 5)", yard, () -> yard.crane(12, 5));
        CHECKS.noSuch("crane(12, 0)", yard, () -> yard.crane(12, 0));
        CHECKS.wrongArgument("crane(0, 0)", yard, () -> yard.crane(0, 0));
        CHECKS.wrongArgument("crane(0, 1001)", yard, () -> yard.crane(0, 1001));
        CHECKS.due("crane after wrong ones", yard.crane(0, 1), 1000);
    }

    private static void craneLifts() {
        Yard yard = new Yard();
        yard.block(4, 6, 0, 90, 0, 8);
        yard.crane(11, 125);
        CHECKS.due("90 tons, 7 frames from 125", yard.whyNot(0), 0);
        yard.crane(11, 124);
        CHECKS.due("90 tons, 7 frames from 124", yard.whyNot(0), 4);
        CHECKS.wrongArgument("crane(6, 0)", yard, () -> yard.crane(6, 0));
        CHECKS.due("a refused crane has not moved", yard.whyNot(0), 4);
        yard.crane(0, 120);
        CHECKS.due("90 tons, 6 frames from 120", yard.whyNot(0), 0);
        yard.crane(0, 119);
        CHECKS.due("90 tons, 6 frames from 119", yard.whyNot(0), 4);
        yard.crane(5, 95);
        CHECKS.due("90 tons, 1 frame from 95", yard.whyNot(0), 0);
        yard.crane(5, 94);
        CHECKS.due("90 tons, 1 frame from 94", yard.whyNot(0), 4);
    }

    // Promise 4
    private static void welderTellsFlawsBefore() {
        Yard yard = new Yard();
        CHECKS.due("welder(0, 0)", yard.welder(0, 0), 10);
        CHECKS.due("welder(0, 100)", yard.welder(0, 100), 0);
        CHECKS.due("welder(3, 7)", yard.welder(3, 7), 10);
        CHECKS.due("welder(0, 5)", yard.welder(0, 5), 100);
        CHECKS.noSuch("welder(-1, 5)", yard, () -> yard.welder(-1, 5));
        CHECKS.noSuch("welder(4, 5)", yard, () -> yard.welder(4, 5));
        CHECKS.noSuch("welder(4, 101)", yard, () -> yard.welder(4, 101));
        CHECKS.wrongArgument("welder(3, -1)", yard, () -> yard.welder(3, -1));
        CHECKS.wrongArgument("welder(3, 101)", yard, () -> yard.welder(3, 101));
        CHECKS.due("welder(3, 0) after wrong ones", yard.welder(3, 0), 7);
    }

    private static void welderCountsFromThenOn() {
        Yard yard = new Yard();
        for (int block = 0; block < 4; block++) {
            yard.block(block % 2, block % 2, 0, 1, 0, 1);
        }
        yard.welder(1, 100);
        yard.join(0, 1, 1);
        yard.welder(1, 0);
        yard.join(2, 3, 1);
        yard.welder(1, 100);
        CHECKS.due("made when all was flawed", yard.test(0), Stowfinish.BAD);
        CHECKS.due("made when nothing was", yard.test(1), Stowfinish.GOOD);
    }

    // Promise 5
    private static void drawTellsWhatItWas() {
        Yard yard = new Yard();
        CHECKS.due("draw(-5)", yard.draw(-5), 1);
        CHECKS.due("draw(max)", yard.draw(Integer.MAX_VALUE), -5);
        CHECKS.due("draw(min)", yard.draw(Integer.MIN_VALUE), Integer.MAX_VALUE);
        CHECKS.due("draw(1)", yard.draw(1), Integer.MIN_VALUE);
        yard.block(0, 0, 0, 1, 0, 1);
        CHECKS.due("nothing is drawn for a block", yard.draw(1), 1);
        yard.block(1, 1, 0, 1, 0, 1);
        yard.join(0, 1, 0);
        CHECKS.due("x after a weld", yard.draw(1), 1103527590L);
        // 1103527590 >>> 16 is 16838: 38 of a hundred.
        flawedFrom(1, 38, Stowfinish.GOOD);
        flawedFrom(1, 39, Stowfinish.BAD);
        // -1 becomes -1103502900, whose upper half without a sign is 48697: 97 of a hundred.
        flawedFrom(-1, 97, Stowfinish.GOOD);
        flawedFrom(-1, 98, Stowfinish.BAD);
    }

    private static void flawedFrom(int x, int flaws, int due) {
        Yard yard = new Yard();
        yard.block(0, 0, 0, 1, 0, 1);
        yard.block(1, 1, 0, 1, 0, 1);
        yard.welder(2, flaws);
        yard.draw(x);
        yard.join(0, 1, 2);
        CHECKS.due("drawn from " + x + " with flaws " + flaws, yard.test(0), due);
    }
}
