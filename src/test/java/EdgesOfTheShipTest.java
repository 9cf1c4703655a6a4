/**
 * The boundaries in promises 16, 19 and 25 to 32, and in the document's part "Weights, water".
 * Each name quotes the sentence that it holds.
 *
 * What no run of calls can reach:
 * - Promise 30, "the first hour from 0 on": one from 7 on. The water of the hours 0 to 6 is that of all others, too.
 * - Promise 16, "if it cannot be, or is afloat": both throw the same, so that neither comes first.
 * - Promise 27, a centre below 0 or above 1100, which are those of frame 0 and of frame 11.
 */
public final class EdgesOfTheShipTest {
    private static final Checks CHECKS = new Checks();

    public static void main(String[] args) {
        promise16Hours();
        promise16Order();
        promise16AllCells();
        promise16Welds();
        promise16WeldsOfNoMatter();
        promise16TwentyLess();
        promise16BothDraughts();
        promise16Again();
        promise19Afloat();
        promise25Tons();
        promise26Anew();
        promise27Without();
        promise27RoundedDown();
        promise27Ends();
        promise28Without();
        promise28Mean();
        promise28Trim();
        promise28TrimOfOneHundredth();
        promise29Hours();
        promise29Tide();
        promise30First();
        promise30Cannot();
        promise30Afloat();
        promise31Rooms();
        promise31Welds();
        promise31Repairs();
        promise31Launch();
        promise32Log();
        CHECKS.end();
    }

    private static Edge edge(String sentence) {
        return new Edge(CHECKS, sentence);
    }

    /** 288 tons of blocks, and as many tons of things at frame 5 as at frame 6: it lies even. */
    private static Edge even(String sentence, int things) {
        return edge(sentence).full(96, 96, 96).heap(5, things).heap(6, things);
    }

    // ---- Promise 16

    private static void promise16Hours() {
        edge("promise 16: hour: 0 to 1000: the first").full(10, 10, 10)
                .wrongArgument("launch(-1)", "launch(1001)", "launch(min)", "launch(max)").calls("launch(0) 585");
        edge("promise 16: hour: 0 to 1000: the last").full(10, 10, 10).calls("launch(1000) 705");
        edge("promise 16: .. by how many centimetres the water is more than the greater draught").full(10, 10, 10)
                .calls("launch(6) 765", "isAfloat() true");
    }

    private static void promise16Order() {
        edge("promise 16: IllegalArgumentException is named first: nothing stands").wrongArgument("launch(-1)", "launch(1001)")
                .wrongState("launch(0)", "launch(1000)");
        edge("promise 16: IllegalArgumentException is named first: afloat").afloat().wrongArgument("launch(-1)", "launch(1001)")
                .wrongState("launch(0)", "launch(1000)");
    }

    private static void promise16AllCells() {
        for (int frame = 0; frame < 12; frame++) {
            Edge open = edge("promise 16: all 36 cells are filled: but " + (24 + frame)).eager().row(0, 1).row(1, 1);
            if (frame > 0) {
                open.standing(0, frame - 1, 2, 1);
            }
            if (frame < 11) {
                open.standing(frame + 1, 11, 2, 1);
            }
            open.wrongState("launch(6)").calls("firstHour() NONE").single(frame, 2, 1);
            open.calls(frame > 0 ? "test(0) GOOD" : "welds() 1", frame < 11 && frame > 0 ? "test(1) GOOD" : "isAfloat() false");
            open.calls(frame == 0 ? "test(0) GOOD" : "isAfloat() false", "launch(6)", "isAfloat() true");
        }
        edge("promise 16: all 36 cells are filled: a column is not").eager().standing(0, 10, 0, 1).standing(0, 10, 1, 1)
                .standing(0, 10, 2, 1).wrongState("launch(6)").calls("block(11, 11, 0, 1, 0, 1) 3").wrongState("launch(6)");
    }

    /** Welds 0 and 1 are of parts and of parts of parts, weld 2 is on the berth; all are flawed. */
    private static Edge welded(String sentence) {
        return edge(sentence).eager().calls("block(0, 3, 0, 1, 0, 8) 0", "block(4, 7, 0, 1, 0, 8) 1", "join(0, 1, 1) 2",
                "block(8, 11, 0, 1, 0, 8) 3", "join(2, 3, 1) 4", "erect(4, 0)", "block(0, 5, 1, 1, 0, 8) 5", "erect(5, 0)",
                "block(6, 11, 1, 1, 0, 8) 6", "erect(6, 1)", "welds() 3").row(2, 1);
    }

    private static void promise16Welds() {
        for (int left = 0; left < 3; left++) {
            Edge ship = welded("promise 16: no weld of blocks of which STANDING ones are made, or between them, is other than GOOD");
            for (int weld = 0; weld < 3; weld++) {
                if (weld != left) {
                    ship.calls("test(" + weld + ") BAD", "repair(" + weld + ", 0) 1", "test(" + weld + ") GOOD");
                }
            }
            ship.wrongState("launch(6)").calls("firstHour() NONE", "test(" + left + ") BAD");
            ship.wrongState("launch(6)").calls("firstHour() NONE", "repair(" + left + ", 0) 1");
            ship.wrongState("launch(6)").calls("firstHour() NONE", "test(" + left + ") GOOD", "firstHour() 0", "launch(6)");
        }
    }

    private static void promise16WeldsOfNoMatter() {
        edge("promise 16: welds of a LOOSE one, and of a SCRAPPED one, are of no matter").full(1, 1, 1).chain(0, 0, 0, 1, 1)
                .chain(2, 0, 0, 1, 1).calls("block(4, 4, 0, 1, 0, 1) 9", "join(8, 9, 1) 10", "test(2) BAD", "weld(0, 0) UNTESTED",
                        "weld(1, 0) UNTESTED", "firstHour() 0", "scrap(10) 5", "firstHour() 0", "launch(0)");
    }

    private static void promise16TwentyLess() {
        int[] things = {436, 466, 496, 526, 556, 586, 616};
        for (int hour = 0; hour <= 6; hour++) {
            String name = "promise 16: both draughts are 20 less than the water at least, in hour " + hour;
            Edge enough = even(name, things[hour]);
            if (hour > 0) {
                enough.wrongState("launch(" + (hour - 1) + ")");
            }
            enough.calls("firstHour() " + hour, "launch(" + hour + ") 20");
            even(name + " of the last days", things[hour]).calls("launch(" + (996 - hour) + ") 20");
            Edge less = even(name + ": 19", things[hour] + 1).wrongState("launch(" + hour + ")");
            less.calls("firstHour() " + (hour < 6 ? hour + 1 : -1));
            if (hour < 6) {
                less.calls("launch(" + (hour + 1) + ") 49");
            }
        }
    }

    private static void promise16BothDraughts() {
        edge("promise 16: both draughts: that ahead alone").full(96, 96, 96).heap(0, 416)
                .calls("draught(false) 580", "draught(true) 124", "firstHour() 0", "launch(0) 20");
        edge("promise 16: both draughts: that ahead alone, 19").full(96, 96, 96).heap(0, 417)
                .calls("draught(false) 581", "draught(true) 123", "firstHour() 1").wrongState("launch(0)", "launch(12)")
                .calls("launch(1) 49");
        edge("promise 16: both draughts: that behind alone").full(96, 96, 96).heap(11, 416)
                .calls("draught(false) 124", "draught(true) 580", "firstHour() 0", "launch(996) 20");
        edge("promise 16: both draughts: that behind alone, 19").full(96, 96, 96).heap(11, 417)
                .calls("draught(false) 123", "draught(true) 581", "firstHour() 1").wrongState("launch(0)", "launch(996)")
                .calls("launch(11) 49");
    }

    private static void promise16Again() {
        edge("promise 16: IllegalStateException if it .. is afloat").afloat().wrongState("launch(0)", "launch(6)")
                .calls("money() 8600");
    }

    // ---- Promise 19

    private static void promise19Afloat() {
        edge("promise 19: whether the ship is afloat: not by a launch that is refused").calls("isAfloat() false")
                .wrongState("launch(0)").calls("isAfloat() false").full(10, 10, 10).calls("isAfloat() false", "launch(0)",
                        "isAfloat() true");
        edge("promise 19: It is afloat from then on, for good").afloat().heap(0, 900).heap(1, 900)
                .calls("draught(false) 1815", "isAfloat() true", "firstHour() NONE").wrongState("launch(6)").calls("isAfloat() true");
    }

    // ---- Promises 25 and 26

    private static void promise25Tons() {
        edge("promise 25: the tons of the ship are those of all STANDING blocks, of things and of pipes").eager().calls("tons() 0",
                        "block(0, 0, 0, 5, 0, 8) 0", "block(1, 1, 0, 6, 0, 8) 1", "tons() 0", "join(0, 1, 0) 2", "tons() 0",
                        "erect(2, 0)", "tons() 12", "block(2, 2, 0, 7, 0, 8) 3", "scrap(3)", "tons() 12", "paint(0)", "tons() 12",
                        "fit(0, 1) 1", "tons() 13", "fit(0, 100) 101", "tons() 113", "hole(0, false)", "tons() 113",
                        "pipe(0, 1) 2", "tons() 115", "tonsAnew() 115")
                .wrongState("fit(0, 1)", "erect(3, 0)")
                .calls("tons() 115", "tonsAnew() 115");
    }

    private static void promise26Anew() {
        edge("promise 26: what is left over at its first one: without tons").calls("tonsAnew() 0");
        anewOf(0, 11, 1);
        anewOf(0, 11, 11);
        anewOf(0, 11, 12);
        anewOf(0, 11, 13);
        anewOf(0, 11, 95);
        anewOf(0, 11, 96);
        anewOf(11, 11, 1);
        anewOf(11, 11, 96);
        anewOf(3, 5, 2);
        anewOf(3, 5, 3);
        edge("promise 26: of each room its things and pipes").full(11, 13, 1).calls("hole(34, false)", "pipe(35, 34) 2")
                .heap(35, 300).calls("tonsAnew() 327", "tons() 327");
    }

    private static void anewOf(int first, int last, int tons) {
        edge("promise 26: of each block its tons by its frames, what is left over at its first one: " + tons)
                .standing(first, last, 0, tons).calls("tonsAnew() " + tons, "tons() " + tons);
    }

    // ---- Promise 27

    private static void promise27Without() {
        edge("promise 27: 0 without tons").calls("centre() 0", "block(11, 11, 0, 1, 0, 8) 0", "centre() 0");
    }

    private static void promise27RoundedDown() {
        // Moment 1 and 3 tons: 16.7. Moment 5 and 3 tons: 83.3. Moment 45 and 10 tons: 225.
        edge("promise 27: the moment by the tons, rounded down").standing(0, 1, 0, 1).single(0, 1, 2).calls("centre() 16")
                .anew().single(0, 0, 2).standing(2, 3, 0, 1).calls("centre() 83")
                .anew().single(0, 0, 5).single(4, 0, 3).single(10, 0, 1).single(1, 0, 1).calls("centre() 230")
                .anew().standing(4, 5, 0, 10).calls("centre() 450");
        even("promise 27: rounded down, a ton ahead of the middle", 436).calls("centre() 550", "fit(17, 1)", "centre() 549",
                "fit(18, 1)", "centre() 550", "fit(18, 1)", "centre() 550");
    }

    private static void promise27Ends() {
        edge("promise 27: the first frame").single(0, 0, 7).calls("centre() 0").heap(0, 100).calls("centre() 0");
        edge("promise 27: the last frame").single(11, 0, 7).calls("centre() 1100").heap(11, 100).calls("centre() 1100");
        edge("promise 27: twice the frame of the room, for things and for pipes").row(0, 1).calls("centre() 550", "hole(10, false)",
                "pipe(11, 10) 2", "centre() 883").heap(0, 1).calls("centre() 662");
    }

    // ---- Promise 28

    private static void promise28Without() {
        edge("promise 28: a draught without tons").calls("draught(false) 0", "draught(true) 0");
    }

    private static void draughtsOf(int first, int last, int tons, int ahead, int behind) {
        edge("promise 28: The mean draught is half of the tons, rounded down; the trim is .. toward 0: " + tons + " tons at "
                + first + " to " + last).eager().standing(first, last, 0, tons)
                .calls("draught(false) " + ahead, "draught(true) " + behind);
    }

    private static void promise28Mean() {
        draughtsOf(0, 11, 1, 0, 0);
        draughtsOf(0, 11, 2, 1, 1);
        draughtsOf(0, 11, 3, 1, 1);
        draughtsOf(0, 11, 95, 47, 47);
        draughtsOf(0, 11, 96, 48, 48);
    }

    /** 50 hundredths before and behind the middle: 950, 1000, 1050, 1950 and 2000 by 1000. */
    private static void promise28Trim() {
        draughtsOf(5, 5, 19, 9, 9);
        draughtsOf(5, 5, 20, 11, 9);
        draughtsOf(5, 5, 21, 11, 9);
        draughtsOf(5, 5, 39, 20, 18);
        draughtsOf(5, 5, 40, 22, 18);
        draughtsOf(6, 6, 19, 9, 9);
        draughtsOf(6, 6, 20, 9, 11);
        draughtsOf(6, 6, 21, 9, 11);
        draughtsOf(6, 6, 39, 18, 20);
        draughtsOf(6, 6, 40, 18, 22);
        // The ends; a draught may be below 0.
        draughtsOf(0, 0, 1, 0, 0);
        draughtsOf(0, 0, 2, 2, 0);
        draughtsOf(0, 0, 96, 100, -4);
        draughtsOf(11, 11, 1, 0, 0);
        draughtsOf(11, 11, 2, 0, 2);
        draughtsOf(11, 11, 96, -4, 100);
    }

    private static void promise28TrimOfOneHundredth() {
        even("promise 28: a trim of one hundredth of 1161 tons", 436).calls("draught(false) 580", "draught(true) 580",
                "fit(17, 1)", "draught(false) 581", "draught(true) 579", "fit(18, 1)", "draught(false) 581", "draught(true) 581");
    }

    // ---- Promise 29

    private static void promise29Hours() {
        edge("promise 29: hour: 0 to 1000").calls("water(0) 600", "water(1000) 720")
                .wrongArgument("water(-1)", "water(1001)", "water(-12)", "water(min)", "water(max)");
    }

    private static void promise29Tide() {
        edge("promise 29: 600 in the hours divisible by 12, 30 more for each hour up to the sixth, 30 less for each behind")
                .calls("water(0) 600", "water(1) 630", "water(2) 660", "water(3) 690", "water(4) 720", "water(5) 750",
                        "water(6) 780", "water(7) 750", "water(8) 720", "water(9) 690", "water(10) 660", "water(11) 630",
                        "water(12) 600", "water(13) 630", "water(18) 780", "water(19) 750", "water(984) 600", "water(990) 780",
                        "water(995) 630", "water(996) 600", "water(997) 630", "water(999) 690");
    }

    // ---- Promise 30

    private static void promise30First() {
        edge("promise 30: the first hour from 0 on").full(1, 1, 1).calls("firstHour() 0");
        even("promise 30: the last one that is a first hour", 616).calls("firstHour() 6");
    }

    private static void promise30Cannot() {
        edge("promise 30: NONE if it cannot be: nothing stands").calls("firstHour() NONE");
        even("promise 30: NONE if it cannot be: too deep for the highest water", 617).calls("firstHour() NONE")
                .wrongState("launch(6)", "launch(18)");
        edge("promise 30: NONE if it cannot be: a cell is not filled").eager().row(0, 1).row(1, 1).standing(0, 10, 2, 1)
                .calls("firstHour() NONE").single(11, 2, 1).calls("firstHour() NONE", "test(0) GOOD", "firstHour() 0");
    }

    private static void promise30Afloat() {
        edge("promise 30: NONE if it .. is afloat").full(10, 10, 10).calls("firstHour() 0", "launch(6)", "firstHour() NONE");
    }

    // ---- Promises 31 and 32

    private static Edge paid(Edge edge, int money) {
        return edge.calls("money() " + money, "moneyAnew() " + money);
    }

    private static void promise31Rooms() {
        Edge yard = paid(edge("promise 31: The yard is paid 100 for each room when it comes to stand"), 0);
        paid(yard.calls("block(0, 0, 0, 1, 0, 8) 0"), 0);
        paid(yard.calls("erect(0, 0)"), 100);
        yard.wrongState("erect(0, 0)");
        paid(yard.standing(2, 11, 0, 1), 1100);
        paid(yard.calls("paint(0)", "fit(0, 1)"), 1100);
    }

    private static void promise31Welds() {
        Edge yard = paid(edge("promise 31: it pays 20 for each weld that is made").chain(0, 0, 0, 1, 1), -20);
        yard.wrongState("join(0, 1, 0)");
        paid(yard.calls("test(0)", "scrap(2)"), -20);
        paid(yard.single(0, 0, 1).single(1, 0, 1), 160);
        paid(yard.single(3, 0, 1).single(2, 0, 1), 320);
        paid(yard.calls("hole(0, false)", "pipe(0, 1)"), 320);
    }

    private static void promise31Repairs() {
        Edge yard = edge("promise 31: .. and 30 for each repair").eager().chain(0, 0, 0, 1);
        yard.calls("block(1, 1, 0, 1, 0, 1) 1", "join(0, 1, 1) 2", "test(0) BAD");
        paid(yard, -20);
        paid(yard.calls("repair(0, 1) 1"), -50);
        yard.wrongState("repair(0, 1)");
        paid(yard.calls("test(0) BAD", "repair(0, 1) 2", "test(0) BAD"), -80);
        yard.wrongState("repair(0, 1)");
        paid(yard, -80);
    }

    private static void promise31Launch() {
        Edge yard = edge("promise 31: .. and 5000 for the launch").full(10, 10, 10);
        paid(yard, 3600);
        yard.wrongArgument("launch(1001)");
        paid(yard.calls("launch(0)"), 8600);
        yard.wrongState("launch(0)");
        paid(yard.calls("paint(0)", "fit(0, 1)"), 8600);
    }

    /** 36 rooms, 44 welds, each repaired twice, and the launch: no longer log is known. */
    private static void promise32Log() {
        Edge longest = edge("promise 32: from the yard's log, entry by entry: the longest").eager();
        for (int cell = 0; cell < 36; cell++) {
            longest.calls("block(" + cell % 12 + ", " + cell % 12 + ", " + cell / 12 + ", 1, 0, 8) " + cell,
                    "erect(" + cell + ", 1)");
        }
        longest.calls("block(0, 0, 0, 1, 0, 1) 36");
        for (int frame = 1; frame < 12; frame++) {
            int block = 35 + 2 * frame;
            longest.calls("block(" + frame + ", " + frame + ", 0, 1, 0, 1) " + block,
                    "join(" + (block - 1) + ", " + block + ", 1) " + (block + 1));
        }
        paid(longest.calls("welds() 44"), 3600 - 880);
        for (int weld = 0; weld < 44; weld++) {
            longest.calls("test(" + weld + ") BAD", "repair(" + weld + ", 1) 1", "test(" + weld + ") BAD",
                    "repair(" + weld + ", 0) 2", "test(" + weld + ") GOOD");
        }
        paid(longest, 3600 - 880 - 2640);
        paid(longest.calls("launch(0)"), 8600 - 880 - 2640);
    }
}
