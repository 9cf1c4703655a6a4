/** Promises 6 to 11: blocks and welds. */
public final class BlocksTest {
    private static final Checks CHECKS = new Checks();

    public static void main(String[] args) {
        blockIsAsTold();
        blockIsRefused();
        blocksAreSixty();
        joinMakesAWhole();
        joinShrinksByLevel();
        joinIsRefused();
        erectBegins();
        erectCuts();
        erectWelds();
        erectSpoilsPaint();
        erectIsRefused();
        scrapTakesAllParts();
        scrapIsRefused();
        testTellsOnce();
        testIsRefused();
        repairTwiceAtMost();
        repairSpoilsPaintWhereItStands();
        repairIsRefused();
        CHECKS.end();
    }

    // Promise 6
    private static void blockIsAsTold() {
        Yard yard = new Yard();
        CHECKS.due("first block", yard.block(0, 11, 2, 200, 60, 8), 0);
        CHECKS.due("second block", yard.block(11, 11, 0, 1, 0, 1), 1);
        int[] first = {Stowfinish.LOOSE, 0, 11, 2, 200, 12060, 8, Stowfinish.NONE};
        int[] second = {Stowfinish.LOOSE, 11, 11, 0, 1, 1000, 1, Stowfinish.NONE};
        for (int what = 0; what <= 7; what++) {
            CHECKS.due("told(0, " + what + ")", yard.told(0, what), first[what]);
            CHECKS.due("told(1, " + what + ")", yard.told(1, what), second[what]);
        }
        CHECKS.due("a block costs nothing", yard.money(), 0);
        CHECKS.due("a block in the hall is no weight of the ship", yard.tons(), 0);
    }

    private static void blockIsRefused() {
        Yard yard = new Yard();
        yard.block(0, 0, 0, 1, 0, 1);
        CHECKS.noSuch("first -1", yard, () -> yard.block(-1, 3, 0, 1, 0, 1));
        CHECKS.noSuch("last 12", yard, () -> yard.block(0, 12, 0, 1, 0, 1));
        CHECKS.noSuch("last -1", yard, () -> yard.block(0, -1, 0, 1, 0, 1));
        CHECKS.noSuch("first 12", yard, () -> yard.block(12, 11, 0, 0, 0, 1));
        CHECKS.noSuch("level -1", yard, () -> yard.block(0, 0, -1, 1, 0, 1));
        CHECKS.noSuch("level 3", yard, () -> yard.block(5, 4, 3, 0, 61, 9));
        CHECKS.wrongArgument("last below first", yard, () -> yard.block(5, 4, 0, 1, 0, 1));
        CHECKS.wrongArgument("tons 0", yard, () -> yard.block(0, 0, 0, 0, 0, 1));
        CHECKS.wrongArgument("tons 201", yard, () -> yard.block(0, 0, 0, 201, 0, 1));
        CHECKS.wrongArgument("more -1", yard, () -> yard.block(0, 0, 0, 1, -1, 1));
        CHECKS.wrongArgument("more 61", yard, () -> yard.block(0, 0, 0, 1, 61, 1));
        CHECKS.wrongArgument("lugs 0", yard, () -> yard.block(0, 0, 0, 1, 0, 0));
        CHECKS.wrongArgument("lugs 9", yard, () -> yard.block(0, 0, 0, 1, 0, 9));
        Yard ship = Yards.afloat();
        CHECKS.wrongState("a block when afloat", ship, () -> ship.block(0, 0, 0, 1, 0, 1));
        CHECKS.wrongArgument("tons 0 when afloat", ship, () -> ship.block(0, 0, 0, 0, 0, 1));
    }

    private static void blocksAreSixty() {
        Yard yard = new Yard();
        for (int block = 0; block < 60; block++) {
            CHECKS.due("block " + block, yard.block(block % 12, block % 12, 0, 1, 0, 1), block);
        }
        CHECKS.wrongState("a 61st block", yard, () -> yard.block(0, 0, 0, 1, 0, 1));
        CHECKS.wrongState("a 61st by a join", yard, () -> yard.join(0, 1, 0));
        CHECKS.due("60 blocks", yard.blocks(), 60);
        yard.scrap(5);
        CHECKS.wrongState("scrapping makes no space", yard, () -> yard.block(0, 0, 0, 1, 0, 1));
    }

    // Promise 7
    private static void joinMakesAWhole() {
        Yard yard = new Yard();
        yard.block(2, 3, 1, 10, 5, 2);
        yard.block(4, 4, 1, 20, 60, 8);
        CHECKS.due("join(0, 1, 3)", yard.join(0, 1, 3), 2);
        int[] whole = {Stowfinish.LOOSE, 2, 4, 1, 31, 3063, 10, Stowfinish.NONE};
        for (int what = 0; what <= 7; what++) {
            CHECKS.due("told(2, " + what + ")", yard.told(2, what), whole[what]);
        }
        CHECKS.due("the one ahead", yard.told(0, 0), Stowfinish.PART);
        CHECKS.due("the one behind", yard.told(1, 0), Stowfinish.PART);
        CHECKS.due("its length stays", yard.told(0, 5), 2005);
        CHECKS.due("welds", yard.welds(), 1);
        CHECKS.due("untested", yard.weld(0, 0), Stowfinish.UNTESTED);
        CHECKS.due("frame behind the weld", yard.weld(0, 2), 4);
        CHECKS.due("level of the weld", yard.weld(0, 3), 1);
        CHECKS.due("paid for the weld", yard.money(), -20);
    }

    private static void joinShrinksByLevel() {
        for (int level = 0; level < 3; level++) {
            Yard yard = new Yard();
            for (int frame = 0; frame < 3; frame++) {
                yard.block(frame, frame, level, 1, 10 * frame, 1);
            }
            yard.join(0, 1, 0);
            CHECKS.due("length of two at " + level, yard.told(3, 5), 2010 - (3 - level));
            yard.join(3, 2, 0);
            CHECKS.due("length of three at " + level, yard.told(4, 5), 3030 - 2 * (3 - level));
            CHECKS.due("tons of three", yard.told(4, 4), 5);
            CHECKS.due("lugs of three", yard.told(4, 6), 3);
            CHECKS.due("frames of three", yard.told(4, 2) - yard.told(4, 1), 2);
        }
    }

    private static void joinIsRefused() {
        Yard yard = new Yard();
        yard.block(0, 1, 0, 10, 0, 8);
        yard.block(2, 3, 0, 10, 0, 8);
        yard.block(2, 3, 1, 10, 0, 8);
        yard.block(3, 4, 0, 10, 0, 8);
        yard.block(4, 4, 0, 10, 0, 8);
        CHECKS.noSuch("join(-1, 1, 0)", yard, () -> yard.join(-1, 1, 0));
        CHECKS.noSuch("join(5, 1, 0)", yard, () -> yard.join(5, 1, 0));
        CHECKS.noSuch("join(0, 5, 0)", yard, () -> yard.join(0, 5, 0));
        CHECKS.noSuch("join(0, -1, 0)", yard, () -> yard.join(0, -1, 0));
        CHECKS.noSuch("join(0, 1, 4)", yard, () -> yard.join(0, 1, 4));
        CHECKS.noSuch("join(1, 0, -1)", yard, () -> yard.join(1, 0, -1));
        CHECKS.wrongState("the wrong way round", yard, () -> yard.join(1, 0, 0));
        CHECKS.wrongState("with itself", yard, () -> yard.join(0, 0, 0));
        CHECKS.wrongState("of another level", yard, () -> yard.join(0, 2, 0));
        CHECKS.wrongState("with a gap", yard, () -> yard.join(0, 3, 0));
        CHECKS.wrongState("one over the other", yard, () -> yard.join(1, 3, 0));
        yard.scrap(3);
        yard.erect(0, 0);
        CHECKS.wrongState("a standing one", yard, () -> yard.join(0, 1, 0));
        yard.join(1, 4, 0);
        yard.block(0, 1, 0, 10, 0, 8);
        CHECKS.wrongState("a part", yard, () -> yard.join(6, 1, 0));
        yard.block(5, 5, 0, 10, 0, 8);
        CHECKS.wrongState("behind a part", yard, () -> yard.join(4, 7, 0));
        yard.scrap(7);
        CHECKS.wrongState("a scrapped one", yard, () -> yard.join(5, 7, 0));
        CHECKS.due("with the whole", yard.join(6, 5, 0), 8);
        Yard ship = Yards.afloatWithLoose(1);
        int last = ship.blocks();
        CHECKS.due("joined when afloat", ship.join(last - 2, last - 1, 0), last);
    }

    // Promise 8
    private static void erectBegins() {
        Yard yard = Yards.eager();
        yard.block(3, 3, 0, 1, 7, 8);
        CHECKS.due("alone", yard.erect(0, 0), 0);
        CHECKS.due("begins at its frame", yard.told(0, 7), 3000);
        yard.block(4, 4, 0, 1, 60, 8);
        CHECKS.due("behind one", yard.erect(1, 0), 0);
        CHECKS.due("begins 4 behind the end", yard.told(1, 7), 4011);
        CHECKS.due("is not cut", yard.told(1, 5), 1060);
        yard.block(0, 2, 0, 1, 60, 8);
        CHECKS.due("ahead of one", yard.erect(2, 0), 0);
        CHECKS.due("ends 4 ahead, begins below 0", yard.told(2, 7), 2996 - 3060);
        CHECKS.due("is not cut", yard.told(2, 5), 3060);
        yard.block(7, 7, 1, 1, 0, 8);
        yard.block(7, 7, 0, 1, 0, 8);
        yard.erect(4, 0);
        CHECKS.due("above the berth", yard.erect(3, 0), 0);
        CHECKS.due("other levels do not move it", yard.told(3, 7), 7000);
    }

    private static void erectCuts() {
        for (int excess : new int[] {-12, -1, 0, 1, 28, 60}) {
            Yard yard = Yards.spanned(excess);
            int block = yard.blocks() - 1;
            CHECKS.due("whyNot with " + excess, yard.whyNot(block), 0);
            CHECKS.due("cut with " + excess, yard.erect(block, 0), Math.max(0, excess));
            CHECKS.due("length with " + excess, yard.told(block, 5), Math.min(9992, 9992 + excess));
            CHECKS.due("begin with " + excess, yard.told(block, 7), 1004);
            CHECKS.due("tons with " + excess, yard.told(block, 4), 19);
        }
        for (int excess : new int[] {-19, -13, 61, 100}) {
            Yard yard = Yards.spanned(excess);
            int block = yard.blocks() - 1;
            CHECKS.due("whyNot with " + excess, yard.whyNot(block), 6);
            CHECKS.wrongState("erect with " + excess, yard, () -> yard.erect(block, 0));
        }
        spaceIsMeasuredWhereTheyStand();
    }

    private static void spaceIsMeasuredWhereTheyStand() {
        Yard yard = Yards.eager();
        yard.block(3, 3, 0, 1, 0, 8);
        yard.block(2, 2, 0, 1, 30, 8);
        yard.block(0, 0, 0, 1, 10, 8);
        yard.erect(0, 0);
        yard.erect(1, 0);
        yard.erect(2, 0);
        CHECKS.due("begins ahead of its frame", yard.told(1, 7), 1966);
        // From 1014 to 1962 there are 948.
        yard.block(1, 1, 0, 1, 9, 8);
        CHECKS.due("longer by 61", yard.whyNot(3), 6);
        yard.block(1, 1, 0, 1, 8, 8);
        CHECKS.due("longer by 60", yard.erect(4, 0), 60);
        CHECKS.due("its length then", yard.told(4, 5), 948);
        CHECKS.due("its begin then", yard.told(4, 7), 1014);
    }

    private static void erectWelds() {
        Yard yard = Yards.eager();
        yard.block(0, 3, 0, 7, 0, 8);
        yard.block(6, 7, 0, 7, 0, 8);
        yard.block(4, 5, 0, 7, 20, 8);
        yard.erect(0, 0);
        CHECKS.due("100 for each room", yard.money(), 400);
        yard.erect(1, 0);
        CHECKS.due("no weld without a neighbour", yard.welds(), 0);
        CHECKS.due("nothing drawn", yard.draw(1), 1);
        CHECKS.due("cut", yard.erect(2, 1), 28);
        CHECKS.due("two welds", yard.welds(), 2);
        CHECKS.due("that ahead first", yard.weld(0, 2), 4);
        CHECKS.due("that behind then", yard.weld(1, 2), 6);
        CHECKS.due("level", yard.weld(1, 3), 0);
        CHECKS.due("money", yard.money(), 800 - 40);
        CHECKS.due("drawn twice", yard.draw(1), -1770082073L);
        CHECKS.due("standing", yard.told(2, 0), Stowfinish.STANDING);
        for (int frame = 0; frame < 8; frame++) {
            CHECKS.due("cell " + frame, yard.cell(frame, 0), frame < 4 ? 0 : frame < 6 ? 2 : 1);
        }
        // The draws from 1 are 38 and 26 of a hundred.
        Yard drawn = Yards.eager();
        drawn.welder(1, 30);
        drawn.block(0, 0, 0, 1, 0, 8);
        drawn.block(2, 2, 0, 1, 0, 8);
        drawn.block(1, 1, 0, 1, 0, 8);
        drawn.erect(0, 0);
        drawn.erect(1, 0);
        drawn.erect(2, 1);
        CHECKS.due("first draw is that ahead", drawn.test(0), Stowfinish.GOOD);
        CHECKS.due("second draw is that behind", drawn.test(1), Stowfinish.BAD);
    }

    private static void erectSpoilsPaint() {
        Yard yard = Yards.eager();
        yard.block(0, 1, 0, 1, 0, 8);
        yard.block(4, 5, 0, 1, 0, 8);
        yard.block(2, 3, 0, 1, 0, 8);
        yard.erect(0, 0);
        yard.erect(1, 0);
        for (int room : new int[] {0, 1, 4, 5}) {
            yard.paint(room);
        }
        yard.fit(1, 30);
        yard.erect(2, 0);
        int[] painted = {1, 0, 0, 0, 0, 1};
        for (int room = 0; room < 6; room++) {
            CHECKS.due("paint of " + room, yard.cell(room, 1), painted[room]);
        }
        CHECKS.due("what is in it stays", yard.cell(1, 2), 30);
        yard.block(0, 5, 1, 1, 0, 8);
        yard.erect(3, 0);
        CHECKS.due("no weld from a level to another", yard.welds(), 2);
        CHECKS.due("paint below stays", yard.cell(0, 1), 1);
    }

    private static void erectIsRefused() {
        Yard yard = new Yard();
        yard.block(0, 0, 0, 10, 0, 1);
        CHECKS.noSuch("erect(-1, 0)", yard, () -> yard.erect(-1, 0));
        CHECKS.noSuch("erect(1, 0)", yard, () -> yard.erect(1, 0));
        CHECKS.noSuch("erect(0, 4)", yard, () -> yard.erect(0, 4));
        CHECKS.noSuch("erect(0, -1)", yard, () -> yard.erect(0, -1));
        yard.erect(0, 0);
        CHECKS.wrongState("again", yard, () -> yard.erect(0, 0));
        CHECKS.noSuch("again, without a welder", yard, () -> yard.erect(0, 9));
        yard.block(0, 0, 0, 10, 0, 1);
        CHECKS.wrongState("filled", yard, () -> yard.erect(1, 0));
        yard.block(1, 1, 1, 10, 0, 1);
        CHECKS.wrongState("nothing below", yard, () -> yard.erect(2, 0));
        yard.block(1, 1, 0, 13, 0, 1);
        CHECKS.wrongState("the lugs do not hold", yard, () -> yard.erect(3, 0));
        Yard ship = Yards.afloatWithLoose(1);
        CHECKS.wrongState("afloat", ship, () -> ship.erect(ship.blocks() - 1, 0));
    }

    // Promise 9
    private static void scrapTakesAllParts() {
        Yard yard = new Yard();
        for (int frame = 0; frame < 4; frame++) {
            yard.block(frame, frame, 0, 1, 0, 1);
        }
        yard.join(0, 1, 0);
        yard.join(2, 3, 0);
        yard.join(4, 5, 0);
        yard.block(4, 4, 0, 1, 0, 1);
        CHECKS.due("scrap(6)", yard.scrap(6), 7);
        for (int block = 0; block < 7; block++) {
            CHECKS.due("told(" + block + ", 0)", yard.told(block, 0), Stowfinish.SCRAPPED);
        }
        CHECKS.due("another one stays", yard.told(7, 0), Stowfinish.LOOSE);
        CHECKS.due("there still are", yard.blocks(), 8);
        CHECKS.due("a single one", yard.scrap(7), 1);
        CHECKS.due("its welds are told of still", yard.weld(2, 2), 2);
        CHECKS.due("money stays", yard.money(), -60);
        Yard ship = Yards.afloatWithLoose(1);
        CHECKS.due("scrapped when afloat", ship.scrap(ship.blocks() - 1), 1);
    }

    private static void scrapIsRefused() {
        Yard yard = new Yard();
        yard.block(0, 0, 0, 1, 0, 1);
        yard.block(1, 1, 0, 1, 0, 1);
        yard.join(0, 1, 0);
        CHECKS.noSuch("scrap(-1)", yard, () -> yard.scrap(-1));
        CHECKS.noSuch("scrap(3)", yard, () -> yard.scrap(3));
        CHECKS.wrongState("a part", yard, () -> yard.scrap(0));
        yard.erect(2, 0);
        CHECKS.wrongState("a standing one", yard, () -> yard.scrap(2));
        yard.block(5, 5, 0, 1, 0, 1);
        yard.scrap(3);
        CHECKS.wrongState("a scrapped one", yard, () -> yard.scrap(3));
    }

    // Promise 10
    private static void testTellsOnce() {
        Yard yard = Yards.withFlaw(0, 100);
        CHECKS.due("flawed", yard.test(0), Stowfinish.BAD);
        CHECKS.due("told so", yard.weld(0, 0), Stowfinish.BAD);
        CHECKS.wrongState("again", yard, () -> yard.test(0));
        Yard good = Yards.withFlaw(0, 0);
        CHECKS.due("not flawed", good.test(0), Stowfinish.GOOD);
        CHECKS.due("told so", good.weld(0, 0), Stowfinish.GOOD);
        CHECKS.wrongState("again", good, () -> good.test(0));
        CHECKS.due("a test costs nothing", good.money(), -20);
        CHECKS.due("a test draws nothing", good.draw(1), 1103527590L);
    }

    private static void testIsRefused() {
        Yard yard = Yards.withFlaw(0, 0);
        CHECKS.noSuch("test(-1)", yard, () -> yard.test(-1));
        CHECKS.noSuch("test(1)", yard, () -> yard.test(1));
        yard.block(2, 2, 0, 1, 0, 1);
        yard.join(2, 3, 0);
        yard.scrap(4);
        CHECKS.wrongState("of a scrapped block", yard, () -> yard.test(0));
        CHECKS.wrongState("the other one too", yard, () -> yard.test(1));
        Yard ship = Yards.afloatWithLoose(1);
        int last = ship.blocks();
        ship.join(last - 2, last - 1, 0);
        CHECKS.due("tested when afloat", ship.test(ship.welds() - 1), Stowfinish.GOOD);
    }

    // Promise 11
    private static void repairTwiceAtMost() {
        Yard yard = Yards.withFlaw(0, 100);
        yard.test(0);
        CHECKS.due("once", yard.repair(0, 1), 1);
        CHECKS.due("untested then", yard.weld(0, 0), Stowfinish.UNTESTED);
        CHECKS.due("repaired once", yard.weld(0, 1), 1);
        CHECKS.due("30 for it", yard.money(), -50);
        CHECKS.due("drawn anew", yard.draw(1), 1103527590 * 1103515245 + 12345);
        CHECKS.due("flaws of who repairs", yard.test(0), Stowfinish.BAD);
        yard.welder(2, 39);
        CHECKS.due("twice", yard.repair(0, 2), 2);
        CHECKS.due("38 is below 39", yard.test(0), Stowfinish.BAD);
        CHECKS.wrongState("thrice", yard, () -> yard.repair(0, 2));
        CHECKS.due("30 each", yard.money(), -80);
        Yard mended = Yards.withFlaw(0, 100);
        mended.test(0);
        mended.welder(2, 38);
        mended.draw(1);
        mended.repair(0, 2);
        CHECKS.due("38 is not below 38", mended.test(0), Stowfinish.GOOD);
        CHECKS.wrongState("a good one", mended, () -> mended.repair(0, 2));
    }

    private static void repairSpoilsPaintWhereItStands() {
        Yard yard = Yards.withFlaw(0, 100);
        yard.block(0, 3, 0, 1, 0, 1);
        yard.erect(3, 0);
        for (int room = 0; room < 4; room++) {
            yard.paint(room);
        }
        yard.test(0);
        yard.repair(0, 1);
        CHECKS.due("its rooms do not stand", yard.cell(0, 1) + yard.cell(1, 1), 2);
        Yard standing = Yards.withFlaw(0, 100);
        standing.block(2, 2, 0, 1, 0, 1);
        standing.join(2, 3, 1);
        standing.erect(4, 0);
        standing.block(3, 3, 0, 1, 0, 1);
        standing.erect(5, 1);
        for (int room = 0; room < 4; room++) {
            standing.paint(room);
        }
        standing.fit(1, 5);
        standing.test(0);
        standing.repair(0, 1);
        paintOf(standing, 0, 0, 1, 1);
        CHECKS.due("what is in it stays", standing.cell(1, 2), 5);
        standing.test(1);
        standing.repair(1, 1);
        paintOf(standing, 0, 0, 0, 1);
        standing.paint(2);
        standing.test(2);
        standing.repair(2, 1);
        paintOf(standing, 0, 0, 0, 0);
    }

    private static void paintOf(Yard yard, int... painted) {
        for (int room = 0; room < painted.length; room++) {
            CHECKS.due("paint of " + room, yard.cell(room, 1), painted[room]);
        }
    }

    private static void repairIsRefused() {
        Yard yard = Yards.withFlaw(0, 100);
        CHECKS.noSuch("repair(-1, 0)", yard, () -> yard.repair(-1, 0));
        CHECKS.noSuch("repair(1, 0)", yard, () -> yard.repair(1, 0));
        CHECKS.noSuch("repair(0, 4)", yard, () -> yard.repair(0, 4));
        CHECKS.noSuch("repair(0, -1)", yard, () -> yard.repair(0, -1));
        CHECKS.wrongState("an untested one", yard, () -> yard.repair(0, 0));
        yard.test(0);
        yard.scrap(2);
        CHECKS.wrongState("of a scrapped block", yard, () -> yard.repair(0, 0));
        Yard ship = Yards.afloatWithLoose(1);
        int last = ship.blocks();
        ship.welder(1, 100);
        ship.join(last - 2, last - 1, 1);
        int weld = ship.welds() - 1;
        CHECKS.due("bad", ship.test(weld), Stowfinish.BAD);
        CHECKS.wrongState("afloat", ship, () -> ship.repair(weld, 0));
    }
}
