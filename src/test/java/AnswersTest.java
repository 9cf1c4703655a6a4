/** Promises 17 to 32: what there is. */
public final class AnswersTest {
    private static final Checks CHECKS = new Checks();

    public static void main(String[] args) {
        constantsAreAsTold();
        blocksAndWeldsAreCounted();
        afloatForGood();
        whyNotTellsTheFirstReason();
        whyNotIsRefused();
        toldFollowsTheBlock();
        toldIsRefused();
        weldFollowsTheWeld();
        weldIsRefused();
        cellFollowsTheCell();
        cellIsRefused();
        roomAtFollowsThePipe();
        roomAtIsRefused();
        tonsAreThoseThatStand();
        tonsAnewAreTheSame();
        centreIsRoundedDown();
        draughtsAreTrimmed();
        waterFollowsTheTide();
        firstHourIsTheFirst();
        moneyIsPaid();
        CHECKS.end();
    }

    private static void constantsAreAsTold() {
        int[] constants = {Stowfinish.NONE, Stowfinish.LOOSE, Stowfinish.PART, Stowfinish.STANDING,
            Stowfinish.SCRAPPED, Stowfinish.UNTESTED, Stowfinish.GOOD, Stowfinish.BAD};
        int[] due = {-1, 0, 1, 2, 3, 0, 1, 2};
        for (int i = 0; i < due.length; i++) {
            CHECKS.due("constant " + i, constants[i], due[i]);
        }
    }

    // Promises 17 and 18
    private static void blocksAndWeldsAreCounted() {
        Yard yard = Yards.eager();
        yard.block(0, 0, 0, 1, 0, 1);
        yard.block(1, 1, 0, 1, 0, 1);
        CHECKS.due("blocks", yard.blocks(), 2);
        CHECKS.due("welds", yard.welds(), 0);
        yard.join(0, 1, 0);
        CHECKS.due("blocks with parts", yard.blocks(), 3);
        CHECKS.due("welds in the hall", yard.welds(), 1);
        yard.scrap(2);
        CHECKS.due("blocks with scrapped ones", yard.blocks(), 3);
        CHECKS.due("welds with scrapped ones", yard.welds(), 1);
        yard.erect(yard.block(0, 0, 0, 1, 0, 1), 0);
        yard.erect(yard.block(1, 1, 0, 1, 0, 1), 0);
        CHECKS.due("blocks with standing ones", yard.blocks(), 5);
        CHECKS.due("welds on the berth", yard.welds(), 2);
        CHECKS.wrongArgument("a block that is none", yard, () -> yard.block(0, 0, 0, 0, 0, 1));
        CHECKS.wrongState("a join that is none", yard, () -> yard.join(3, 4, 0));
    }

    // Promise 19
    private static void afloatForGood() {
        Yard yard = Yards.full(10, 10, 10);
        CHECKS.holds("not yet", !yard.isAfloat());
        yard.launch(6);
        CHECKS.holds("afloat", yard.isAfloat());
        for (int room = 0; room < 4; room++) {
            yard.paint(room);
            for (int times = 0; times < 3; times++) {
                yard.fit(room, 100);
            }
        }
        CHECKS.holds("for good, deep as it is", yard.isAfloat() && yard.draught(false) > 780);
    }

    // Promise 20
    private static void whyNotTellsTheFirstReason() {
        Yard yard = new Yard();
        yard.block(0, 0, 0, 10, 0, 8);
        yard.block(2, 2, 0, 10, 0, 8);
        CHECKS.due("it can", yard.whyNot(0), 0);
        yard.erect(0, 0);
        yard.erect(1, 0);
        CHECKS.due("standing: 1", yard.whyNot(0), 1);
        yard.block(0, 2, 0, 196, 0, 1);
        CHECKS.due("filled, too heavy, few lugs: 2", yard.whyNot(2), 2);
        yard.block(0, 1, 1, 200, 0, 1);
        CHECKS.due("nothing below, too heavy, few lugs: 3", yard.whyNot(3), 3);
        yard.block(1, 1, 0, 196, 60, 1);
        CHECKS.due("too heavy, few lugs, too long: 4", yard.whyNot(4), 4);
        yard.block(1, 1, 0, 195, 60, 8);
        CHECKS.due("as heavy as it may be, few lugs, too long: 5", yard.whyNot(5), 5);
        yard.block(1, 1, 0, 96, 60, 8);
        CHECKS.due("as many lugs as it must have, too long: 6", yard.whyNot(6), 6);
        yard.block(1, 1, 0, 97, 52, 8);
        CHECKS.due("a ton more: 5", yard.whyNot(7), 5);
        yard.block(1, 1, 0, 96, 52, 8);
        CHECKS.due("it just can", yard.whyNot(8), 0);
        yard.block(0, 0, 2, 1, 0, 1);
        CHECKS.due("two levels above: 3", yard.whyNot(9), 3);
        yard.block(0, 0, 1, 1, 0, 1);
        CHECKS.due("above one: 0", yard.whyNot(10), 0);
        yard.block(3, 3, 0, 12, 60, 1);
        CHECKS.due("beside one alone, of any length: 0", yard.whyNot(11), 0);
        yard.block(3, 3, 0, 13, 60, 1);
        CHECKS.due("65 on a lug: 5", yard.whyNot(12), 5);
        yard.block(4, 4, 0, 12, 60, 1);
        yard.join(11, 13, 0);
        CHECKS.due("a part: 1", yard.whyNot(11), 1);
        yard.scrap(14);
        CHECKS.due("a scrapped one: 1", yard.whyNot(14), 1);
        Yard ship = Yards.afloatWithLoose(1);
        CHECKS.due("afloat: 1", ship.whyNot(ship.blocks() - 1), 1);
    }

    private static void whyNotIsRefused() {
        Yard yard = new Yard();
        CHECKS.noSuch("whyNot(0)", yard, () -> yard.whyNot(0));
        yard.block(0, 0, 0, 1, 0, 1);
        CHECKS.noSuch("whyNot(1)", yard, () -> yard.whyNot(1));
        CHECKS.noSuch("whyNot(-1)", yard, () -> yard.whyNot(-1));
        CHECKS.noSuch("whyNot(60)", yard, () -> yard.whyNot(60));
    }

    // Promise 21
    private static void toldFollowsTheBlock() {
        Yard yard = Yards.eager();
        yard.block(2, 3, 0, 14, 6, 3);
        CHECKS.due("loose", yard.told(0, 0), Stowfinish.LOOSE);
        yard.block(4, 4, 0, 5, 0, 2);
        yard.join(0, 1, 0);
        yard.erect(2, 0);
        CHECKS.due("part", yard.told(0, 0), Stowfinish.PART);
        CHECKS.due("a part of a standing one does not begin", yard.told(0, 7), Stowfinish.NONE);
        int[] due = {Stowfinish.STANDING, 2, 4, 0, 20, 3003, 5, 2000};
        for (int what = 0; what < due.length; what++) {
            CHECKS.due("told(2, " + what + ")", yard.told(2, what), due[what]);
        }
        yard.block(5, 5, 0, 5, 0, 2);
        yard.scrap(3);
        CHECKS.due("scrapped", yard.told(3, 0), Stowfinish.SCRAPPED);
        CHECKS.due("its tons", yard.told(3, 4), 5);
        CHECKS.due("it does not begin", yard.told(3, 7), Stowfinish.NONE);
    }

    private static void toldIsRefused() {
        Yard yard = new Yard();
        yard.block(0, 0, 0, 1, 0, 1);
        CHECKS.noSuch("told(-1, 0)", yard, () -> yard.told(-1, 0));
        CHECKS.noSuch("told(1, 0)", yard, () -> yard.told(1, 0));
        CHECKS.noSuch("told(1, 9)", yard, () -> yard.told(1, 9));
        CHECKS.wrongArgument("told(0, -1)", yard, () -> yard.told(0, -1));
        CHECKS.wrongArgument("told(0, 8)", yard, () -> yard.told(0, 8));
    }

    // Promise 22
    private static void weldFollowsTheWeld() {
        Yard yard = Yards.withFlaw(7, 100);
        int[] due = {Stowfinish.UNTESTED, 0, 8, 0};
        for (int what = 0; what < due.length; what++) {
            CHECKS.due("weld(0, " + what + ")", yard.weld(0, what), due[what]);
        }
        yard.test(0);
        CHECKS.due("bad", yard.weld(0, 0), Stowfinish.BAD);
        yard.repair(0, 0);
        CHECKS.due("untested again", yard.weld(0, 0), Stowfinish.UNTESTED);
        CHECKS.due("repaired", yard.weld(0, 1), 1);
        yard.test(0);
        CHECKS.due("good", yard.weld(0, 0), Stowfinish.GOOD);
        yard.scrap(2);
        CHECKS.due("still told", yard.weld(0, 0), Stowfinish.GOOD);
        yard.block(3, 3, 2, 1, 0, 1);
        yard.block(4, 4, 2, 1, 0, 1);
        yard.join(3, 4, 0);
        CHECKS.due("level 2", yard.weld(1, 3), 2);
        CHECKS.due("frame 4", yard.weld(1, 2), 4);
    }

    private static void weldIsRefused() {
        Yard yard = Yards.withFlaw(0, 0);
        CHECKS.noSuch("weld(-1, 0)", yard, () -> yard.weld(-1, 0));
        CHECKS.noSuch("weld(1, 0)", yard, () -> yard.weld(1, 0));
        CHECKS.noSuch("weld(100, 4)", yard, () -> yard.weld(100, 4));
        CHECKS.wrongArgument("weld(0, -1)", yard, () -> yard.weld(0, -1));
        CHECKS.wrongArgument("weld(0, 4)", yard, () -> yard.weld(0, 4));
    }

    // Promise 23
    private static void cellFollowsTheCell() {
        Yard yard = Yards.twoRows();
        CHECKS.due("block of 11", yard.cell(11, 0), 0);
        CHECKS.due("block of 12", yard.cell(12, 0), 1);
        CHECKS.due("block of 24", yard.cell(24, 0), Stowfinish.NONE);
        yard.paint(12);
        yard.fit(12, 7);
        yard.hole(0, true);
        yard.hole(0, false);
        yard.pipe(12, 0);
        yard.pipe(12, 1);
        yard.paint(12);
        int[] due = {1, 1, 7, 2, 4};
        int[] below = {0, 0, 0, 2, 10};
        for (int what = 0; what < due.length; what++) {
            CHECKS.due("cell(12, " + what + ")", yard.cell(12, what), due[what]);
            CHECKS.due("cell(0, " + what + ")", yard.cell(0, what), below[what]);
            CHECKS.due("cell(35, " + what + ")", yard.cell(35, what), what == 0 ? Stowfinish.NONE : 0);
        }
    }

    private static void cellIsRefused() {
        Yard yard = new Yard();
        CHECKS.noSuch("cell(-1, 0)", yard, () -> yard.cell(-1, 0));
        CHECKS.noSuch("cell(36, 0)", yard, () -> yard.cell(36, 0));
        CHECKS.noSuch("cell(36, 5)", yard, () -> yard.cell(36, 5));
        CHECKS.wrongArgument("cell(0, -1)", yard, () -> yard.cell(0, -1));
        CHECKS.wrongArgument("cell(35, 5)", yard, () -> yard.cell(35, 5));
    }

    // Promise 24
    private static void roomAtFollowsThePipe() {
        Yard yard = Yards.twoRows();
        yard.hole(8, true);
        yard.hole(19, false);
        yard.pipe(8, 19);
        int[] due = {8, 20, 19, Stowfinish.NONE, Stowfinish.NONE};
        for (int place = 0; place < due.length; place++) {
            CHECKS.due("roomAt(0, " + place + ")", yard.roomAt(0, place), due[place]);
        }
        CHECKS.due("far behind", yard.roomAt(0, Integer.MAX_VALUE), Stowfinish.NONE);
    }

    private static void roomAtIsRefused() {
        Yard yard = Yards.twoRows();
        CHECKS.noSuch("roomAt(0, 0)", yard, () -> yard.roomAt(0, 0));
        yard.hole(8, true);
        yard.pipe(8, 20);
        CHECKS.noSuch("roomAt(-1, 0)", yard, () -> yard.roomAt(-1, 0));
        CHECKS.noSuch("roomAt(1, 0)", yard, () -> yard.roomAt(1, 0));
        CHECKS.noSuch("roomAt(30, 0)", yard, () -> yard.roomAt(30, 0));
        CHECKS.noSuch("roomAt(0, -1)", yard, () -> yard.roomAt(0, -1));
    }

    // Promise 25
    private static void tonsAreThoseThatStand() {
        Yard yard = Yards.eager();
        yard.block(0, 2, 0, 11, 0, 8);
        yard.block(3, 3, 0, 5, 0, 8);
        CHECKS.due("in the hall", yard.tons(), 0);
        yard.join(0, 1, 0);
        yard.erect(2, 0);
        CHECKS.due("of a whole", yard.tons(), 17);
        yard.paint(0);
        yard.fit(0, 30);
        CHECKS.due("with things", yard.tons(), 47);
        yard.hole(0, false);
        CHECKS.due("spoiled paint takes no things", yard.tons(), 47);
        yard.pipe(0, 1);
        CHECKS.due("with a pipe", yard.tons(), 49);
        yard.scrap(yard.block(5, 5, 0, 9, 0, 8));
        CHECKS.due("scrap is no weight", yard.tons(), 49);
    }

    // Promise 26
    private static void tonsAnewAreTheSame() {
        Yard yard = Yards.eager();
        CHECKS.due("none", yard.tonsAnew(), 0);
        yard.erect(yard.block(2, 6, 0, 14, 0, 8), 0);
        CHECKS.due("14 over 5 frames", yard.tonsAnew(), 14);
        yard.erect(yard.block(7, 7, 0, 3, 0, 8), 0);
        yard.erect(yard.block(3, 5, 1, 2, 0, 8), 0);
        CHECKS.due("2 over 3 frames", yard.tonsAnew(), 19);
        yard.hole(3, true);
        yard.hole(3, false);
        yard.pipe(15, 4);
        yard.paint(4);
        yard.fit(4, 100);
        CHECKS.due("with all", yard.tonsAnew(), 122);
        CHECKS.due("as before", yard.tons(), 122);
    }

    // Promise 27
    private static void centreIsRoundedDown() {
        Yard yard = Yards.eager();
        CHECKS.due("without tons", yard.centre(), 0);
        yard.erect(yard.block(0, 0, 0, 2, 0, 8), 0);
        CHECKS.due("at frame 0", yard.centre(), 0);
        yard.erect(yard.block(2, 3, 0, 1, 0, 8), 0);
        // Moment 5 of 3 tons: 83.3.
        CHECKS.due("rounded down", yard.centre(), 83);
        yard.paint(3);
        yard.fit(3, 4);
        // Moment 29 of 7 tons: 207.1.
        CHECKS.due("with things", yard.centre(), 207);
        yard.hole(2, false);
        yard.pipe(3, 2);
        // Moment 39 of 9 tons: 216.6.
        CHECKS.due("with a pipe", yard.centre(), 216);
        yard.erect(yard.block(3, 3, 1, 1, 0, 8), 0);
        // Moment 45 of 10 tons: 225.
        CHECKS.due("a level above", yard.centre(), 225);
        yard.paint(15);
        yard.fit(15, 10);
        // Moment 105 of 20 tons: 262.5.
        CHECKS.due("things a level above", yard.centre(), 262);
    }

    // Promise 28
    private static void draughtsAreTrimmed() {
        Yard none = new Yard();
        CHECKS.due("nothing, behind", none.draught(true), 0);
        CHECKS.due("nothing, ahead", none.draught(false), 0);
        draughtOf(0, 0, 81, 84, -4);
        draughtOf(11, 11, 81, -4, 84);
        draughtOf(0, 11, 95, 47, 47);
        draughtOf(5, 5, 96, 52, 44);
        draughtOf(6, 6, 95, 43, 51);
        draughtOf(5, 6, 1, 0, 0);
        draughtOf(0, 0, 1, 0, 0);
        draughtOf(0, 0, 2, 2, 0);
        // 550 times 20 by 1000 is 11 just so, at both ends.
        draughtOf(0, 0, 20, 21, -1);
        draughtOf(11, 11, 20, -1, 21);
    }

    private static void draughtOf(int first, int last, int tons, int ahead, int behind) {
        Yard yard = Yards.eager();
        yard.erect(yard.block(first, last, 0, tons, 0, 8), 0);
        CHECKS.due("ahead with " + tons + " from " + first + " to " + last, yard.draught(false), ahead);
        CHECKS.due("behind with " + tons + " from " + first + " to " + last, yard.draught(true), behind);
    }

    // Promise 29
    private static void waterFollowsTheTide() {
        Yard yard = new Yard();
        int[] tide = {600, 630, 660, 690, 720, 750, 780, 750, 720, 690, 660, 630};
        for (int hour = 0; hour <= 1000; hour++) {
            CHECKS.due("water(" + hour + ")", yard.water(hour), tide[hour % 12]);
        }
        CHECKS.wrongArgument("water(-1)", yard, () -> yard.water(-1));
        CHECKS.wrongArgument("water(1001)", yard, () -> yard.water(1001));
    }

    // Promise 30
    private static void firstHourIsTheFirst() {
        Yard none = new Yard();
        CHECKS.due("nothing stands", none.firstHour(), Stowfinish.NONE);
        int seen = 0;
        for (int things = 0; things <= 28; things++) {
            Yard yard = loaded(things);
            int draught = Math.max(yard.draught(true), yard.draught(false));
            int due = Stowfinish.NONE;
            for (int hour = 6; hour >= 0; hour--) {
                due = yard.water(hour) >= draught + 20 ? hour : due;
            }
            CHECKS.due("firstHour() with " + things, yard.firstHour(), due);
            seen |= 1 << (due + 1);
            if (due != Stowfinish.NONE) {
                yard.launch(due);
                CHECKS.due("afloat", yard.firstHour(), Stowfinish.NONE);
            } else {
                CHECKS.wrongState("at high water", yard, () -> yard.launch(6));
            }
        }
        CHECKS.due("NONE and each hour from 0 to 6", seen, 255);
        twentyAreEnough();
        weldsMatter();
    }

    private static Yard loaded(int fifties) {
        Yard yard = Yards.full(96, 96, 96);
        int[] rooms = {5, 6, 17, 18, 29, 30};
        for (int times = 0; times < fifties; times++) {
            if (times < rooms.length) {
                yard.paint(rooms[times]);
            }
            yard.fit(rooms[times % rooms.length], 50);
        }
        return yard;
    }

    /** A ton and a ton more, until the water of an hour no longer is 20 more. */
    private static void twentyAreEnough() {
        Yard yard = loaded(18);
        boolean isMet = false;
        boolean isMissed = false;
        for (int times = 0; times < 150; times++) {
            int least = Math.max(yard.draught(true), yard.draught(false)) + 20;
            for (int hour = 1; hour <= 6; hour++) {
                if (yard.water(hour) == least) {
                    CHECKS.due("20 more in the hour", yard.firstHour(), hour);
                    isMet = true;
                }
                if (yard.water(hour) == least - 1) {
                    CHECKS.due("19 more in the hour", yard.firstHour(), hour < 6 ? hour + 1 : Stowfinish.NONE);
                    isMissed = true;
                }
            }
            yard.fit(5, 1);
        }
        CHECKS.holds("both edges were met", isMet && isMissed);
    }

    private static void weldsMatter() {
        Yard yard = Yards.twoRows();
        yard.erect(yard.block(0, 5, 2, 5, 0, 8), 0);
        CHECKS.due("not filled", yard.firstHour(), Stowfinish.NONE);
        yard.erect(yard.block(6, 11, 2, 5, 0, 8), 0);
        CHECKS.due("not tested", yard.firstHour(), Stowfinish.NONE);
        yard.test(0);
        CHECKS.due("good", yard.firstHour(), 0);
        yard.welder(1, 100);
        yard.block(0, 0, 0, 1, 0, 1);
        yard.block(1, 1, 0, 1, 0, 1);
        yard.join(4, 5, 1);
        yard.test(1);
        CHECKS.due("a bad one in the hall", yard.firstHour(), 0);
        yard.scrap(6);
        CHECKS.due("a bad one of a scrapped block", yard.firstHour(), 0);
    }

    // Promises 31 and 32
    private static void moneyIsPaid() {
        Yard yard = Yards.eager();
        moneyOf(yard, 0);
        yard.welder(1, 100);
        yard.block(0, 5, 0, 1, 0, 8);
        yard.block(6, 11, 0, 1, 0, 8);
        yard.join(0, 1, 1);
        moneyOf(yard, -20);
        yard.test(0);
        yard.repair(0, 1);
        moneyOf(yard, -50);
        yard.test(0);
        yard.repair(0, 0);
        yard.test(0);
        moneyOf(yard, -80);
        yard.erect(2, 0);
        moneyOf(yard, 1120);
        yard.erect(yard.block(0, 4, 1, 1, 0, 8), 0);
        moneyOf(yard, 1620);
        yard.erect(yard.block(6, 11, 1, 1, 0, 8), 0);
        moneyOf(yard, 2220);
        yard.erect(yard.block(5, 5, 1, 1, 0, 8), 0);
        moneyOf(yard, 2280);
        yard.erect(yard.block(0, 11, 2, 1, 0, 8), 0);
        moneyOf(yard, 3480);
        yard.test(1);
        yard.test(2);
        CHECKS.wrongArgument("no such hour", yard, () -> yard.launch(1001));
        yard.launch(0);
        moneyOf(yard, 8480);
    }

    private static void moneyOf(Yard yard, int due) {
        CHECKS.due("money()", yard.money(), due);
        CHECKS.due("moneyAnew()", yard.moneyAnew(), due);
    }
}
