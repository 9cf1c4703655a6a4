/** Promises 12 to 16: holes, paint, things, pipes and the launch. */
public final class RoomsTest {
    private static final Checks CHECKS = new Checks();

    public static void main(String[] args) {
        holeIsInBothRooms();
        holeSpoilsPaint();
        holeIsRefused();
        paintTellsHowMany();
        paintIsRefused();
        fitTellsThings();
        fitIsRefused();
        pipeTakesTheShortestWay();
        pipeTakesTheLowerRoom();
        pipeGoesBackAndUp();
        pipeGoesRoundFullRooms();
        pipeIsRefused();
        pipesAreThirty();
        launchTellsTheMargin();
        launchAsksForTwenty();
        launchIsRefused();
        launchAsksForWelds();
        CHECKS.end();
    }

    // Promise 12
    private static void holeIsInBothRooms() {
        Yard yard = Yards.full(1, 1, 1);
        yard.hole(13, false);
        CHECKS.due("to the one behind", yard.cell(13, 4), 2);
        CHECKS.due("to the one ahead", yard.cell(14, 4), 1);
        yard.hole(13, true);
        CHECKS.due("up too", yard.cell(13, 4), 10);
        CHECKS.due("down", yard.cell(25, 4), 4);
        yard.hole(12, false);
        yard.hole(1, true);
        CHECKS.due("all four", yard.cell(13, 4), 15);
        CHECKS.due("up from below", yard.cell(1, 4), 8);
        yard.hole(10, false);
        CHECKS.due("the last frame", yard.cell(11, 4), 1);
        CHECKS.due("a hole costs nothing", yard.money(), 3600);
        CHECKS.due("a hole draws nothing", yard.draw(1), 1);
    }

    private static void holeSpoilsPaint() {
        Yard yard = Yards.twoRows();
        for (int room : new int[] {0, 1, 2, 12}) {
            yard.paint(room);
        }
        yard.fit(0, 9);
        CHECKS.due("both painted", yard.hole(0, false), 2);
        CHECKS.due("paint of 0", yard.cell(0, 1), 0);
        CHECKS.due("paint of 1", yard.cell(1, 1), 0);
        CHECKS.due("paint of 2", yard.cell(2, 1), 1);
        CHECKS.due("things stay", yard.cell(0, 2), 9);
        CHECKS.due("one painted", yard.hole(0, true), 1);
        CHECKS.due("paint of 12", yard.cell(12, 1), 0);
        CHECKS.due("none painted", yard.hole(3, false), 0);
        CHECKS.due("that behind painted", yard.hole(1, false), 1);
    }

    private static void holeIsRefused() {
        Yard yard = Yards.twoRows();
        yard.block(0, 5, 2, 1, 0, 8);
        yard.erect(2, 0);
        CHECKS.noSuch("hole(-1)", yard, () -> yard.hole(-1, true));
        CHECKS.noSuch("hole(36)", yard, () -> yard.hole(36, false));
        CHECKS.noSuch("not filled", yard, () -> yard.hole(30, false));
        CHECKS.noSuch("the next is not filled", yard, () -> yard.hole(29, false));
        CHECKS.noSuch("behind the last frame", yard, () -> yard.hole(11, false));
        CHECKS.noSuch("behind the last frame above", yard, () -> yard.hole(23, false));
        CHECKS.noSuch("above the highest", yard, () -> yard.hole(24, true));
        CHECKS.noSuch("the one above is not filled", yard, () -> yard.hole(18, true));
        yard.hole(0, false);
        yard.hole(0, true);
        yard.paint(0);
        yard.paint(1);
        CHECKS.wrongState("a second one", yard, () -> yard.hole(0, false));
        CHECKS.wrongState("a second one up", yard, () -> yard.hole(0, true));
        Yard ship = Yards.afloat();
        CHECKS.wrongState("afloat", ship, () -> ship.hole(0, false));
        CHECKS.noSuch("afloat, no room", ship, () -> ship.hole(11, false));
    }

    // Promise 13
    private static void paintTellsHowMany() {
        Yard yard = Yards.full(1, 1, 1);
        for (int room = 0; room < 36; room++) {
            CHECKS.due("paint(" + room + ")", yard.paint(room), room + 1);
            CHECKS.due("painted", yard.cell(room, 1), 1);
        }
        yard.hole(0, false);
        CHECKS.due("again", yard.paint(1), 35);
        Yard ship = Yards.afloat();
        CHECKS.due("when afloat", ship.paint(35), 1);
        CHECKS.due("paint costs nothing", ship.money(), 8600);
    }

    private static void paintIsRefused() {
        Yard yard = Yards.twoRows();
        yard.paint(3);
        CHECKS.noSuch("paint(-1)", yard, () -> yard.paint(-1));
        CHECKS.noSuch("paint(36)", yard, () -> yard.paint(36));
        CHECKS.noSuch("paint(24)", yard, () -> yard.paint(24));
        CHECKS.wrongState("painted", yard, () -> yard.paint(3));
    }

    // Promise 14
    private static void fitTellsThings() {
        Yard yard = Yards.twoRows();
        yard.paint(13);
        CHECKS.due("fit(13, 100)", yard.fit(13, 100), 100);
        CHECKS.due("fit(13, 1)", yard.fit(13, 1), 101);
        CHECKS.due("fit(13, 100)", yard.fit(13, 100), 201);
        CHECKS.due("fit(13, 98)", yard.fit(13, 98), 299);
        CHECKS.wrongState("301", yard, () -> yard.fit(13, 2));
        CHECKS.due("300", yard.fit(13, 1), 300);
        CHECKS.wrongState("301", yard, () -> yard.fit(13, 1));
        CHECKS.due("cell(13, 2)", yard.cell(13, 2), 300);
        CHECKS.due("tons", yard.tons(), 320);
        yard.hole(13, false);
        yard.paint(14);
        yard.pipe(13, 14);
        CHECKS.due("pipes are no things", yard.fit(14, 100), 100);
        Yard ship = Yards.afloat();
        ship.paint(0);
        CHECKS.due("when afloat", ship.fit(0, 5), 5);
    }

    private static void fitIsRefused() {
        Yard yard = Yards.twoRows();
        yard.paint(0);
        yard.paint(1);
        CHECKS.noSuch("fit(-1, 1)", yard, () -> yard.fit(-1, 1));
        CHECKS.noSuch("fit(36, 1)", yard, () -> yard.fit(36, 1));
        CHECKS.noSuch("fit(24, 0)", yard, () -> yard.fit(24, 0));
        CHECKS.wrongArgument("fit(0, 0)", yard, () -> yard.fit(0, 0));
        CHECKS.wrongArgument("fit(0, 101)", yard, () -> yard.fit(0, 101));
        CHECKS.wrongArgument("fit(2, 101), bare", yard, () -> yard.fit(2, 101));
        CHECKS.wrongState("bare", yard, () -> yard.fit(2, 1));
        yard.hole(0, false);
        CHECKS.wrongState("spoiled", yard, () -> yard.fit(1, 1));
    }

    // Promise 15
    private static void pipeTakesTheShortestWay() {
        Yard yard = Yards.twoRows();
        for (int frame = 0; frame < 5; frame++) {
            yard.hole(frame, false);
        }
        CHECKS.due("along", yard.pipe(0, 5), 6);
        wayOf(yard, 0, 0, 1, 2, 3, 4, 5);
        CHECKS.due("back", yard.pipe(5, 3), 3);
        wayOf(yard, 1, 5, 4, 3);
        for (int room = 0; room < 6; room++) {
            CHECKS.due("pipes of " + room, yard.cell(room, 3), room < 3 ? 1 : 2);
        }
        CHECKS.due("a ton for each room", yard.tons(), 20 + 6 + 3);
        CHECKS.due("a pipe costs nothing", yard.money(), 2400);
        CHECKS.due("paint is not asked for", yard.cell(0, 1), 0);
        yard.paint(0);
        CHECKS.due("next to it", yard.pipe(0, 1), 2);
        CHECKS.due("a pipe is no hot work", yard.cell(0, 1), 1);
        Yard ship = Yards.full(1, 1, 1);
        ship.hole(0, true);
        ship.launch(0);
        CHECKS.due("when afloat", ship.pipe(12, 0), 2);
    }

    private static void pipeTakesTheLowerRoom() {
        Yard yard = Yards.full(1, 1, 1);
        for (int frame = 0; frame < 3; frame++) {
            for (int level = 0; level < 3; level++) {
                if (frame < 2) {
                    yard.hole(12 * level + frame, false);
                }
                if (level < 2) {
                    yard.hole(12 * level + frame, true);
                }
            }
        }
        yard.pipe(0, 26);
        wayOf(yard, 0, 0, 1, 2, 14, 26);
        yard.pipe(26, 0);
        wayOf(yard, 1, 26, 14, 2, 1, 0);
        yard.pipe(2, 24);
        wayOf(yard, 2, 2, 1, 0, 12, 24);
        CHECKS.wrongState("from one that has 3", yard, () -> yard.pipe(2, 24));
        yard.pipe(24, 14);
        wayOf(yard, 3, 24, 12, 13, 14);
    }

    private static void pipeGoesBackAndUp() {
        Yard yard = Yards.full(1, 1, 1);
        // From 5 up, back and up again: the only way, and one that begins with the higher room.
        yard.hole(5, true);
        yard.hole(16, false);
        yard.hole(16, true);
        yard.hole(5, false);
        yard.hole(6, false);
        CHECKS.due("up, back, up", yard.pipe(5, 28), 4);
        wayOf(yard, 0, 5, 17, 16, 28);
    }

    private static void pipeGoesRoundFullRooms() {
        Yard yard = Yards.twoRows();
        yard.hole(0, false);
        yard.hole(1, false);
        yard.hole(0, true);
        yard.hole(12, false);
        yard.hole(13, false);
        yard.hole(2, true);
        CHECKS.due("the lower way", yard.pipe(0, 2), 3);
        for (int times = 0; times < 2; times++) {
            yard.pipe(1, times == 0 ? 0 : 2);
        }
        CHECKS.due("1 is full", yard.cell(1, 3), 3);
        CHECKS.due("round it", yard.pipe(0, 2), 5);
        wayOf(yard, 3, 0, 12, 13, 14, 2);
        CHECKS.wrongState("to a full one", yard, () -> yard.pipe(14, 1));
        CHECKS.wrongState("from a full one", yard, () -> yard.pipe(1, 14));
        yard.pipe(13, 12);
        yard.pipe(13, 12);
        CHECKS.wrongState("no way is left", yard, () -> yard.pipe(14, 12));
    }

    private static void pipeIsRefused() {
        Yard yard = Yards.twoRows();
        yard.hole(0, false);
        CHECKS.noSuch("pipe(-1, 0)", yard, () -> yard.pipe(-1, 0));
        CHECKS.noSuch("pipe(0, 36)", yard, () -> yard.pipe(0, 36));
        CHECKS.noSuch("pipe(24, 24)", yard, () -> yard.pipe(24, 24));
        CHECKS.noSuch("pipe(24, 0)", yard, () -> yard.pipe(24, 0));
        CHECKS.noSuch("pipe(0, 24)", yard, () -> yard.pipe(0, 24));
        CHECKS.wrongArgument("pipe(3, 3)", yard, () -> yard.pipe(3, 3));
        CHECKS.wrongState("no hole", yard, () -> yard.pipe(1, 2));
        CHECKS.wrongState("no hole up", yard, () -> yard.pipe(0, 12));
        CHECKS.wrongState("round the end", yard, () -> yard.pipe(11, 12));
    }

    private static void pipesAreThirty() {
        Yard yard = Yards.full(1, 1, 1);
        for (int frame = 0; frame < 12; frame++) {
            yard.hole(frame, true);
        }
        int pipes = 0;
        for (int frame = 0; frame < 10; frame++) {
            for (int times = 0; times < 3; times++) {
                CHECKS.due("pipe " + pipes, yard.pipe(frame, frame + 12), 2);
                wayOf(yard, pipes, frame, frame + 12);
                pipes++;
            }
        }
        CHECKS.due("30", pipes, 30);
        CHECKS.wrongState("a 31st", yard, () -> yard.pipe(11, 23));
        CHECKS.noSuch("the 31st", yard, () -> yard.roomAt(30, 0));
    }

    private static void wayOf(Yard yard, int pipe, int... rooms) {
        for (int place = 0; place < rooms.length; place++) {
            CHECKS.due("roomAt(" + pipe + ", " + place + ")", yard.roomAt(pipe, place), rooms[place]);
        }
        CHECKS.due("behind the last", yard.roomAt(pipe, rooms.length), Stowfinish.NONE);
    }

    // Promise 16
    private static void launchTellsTheMargin() {
        for (int hour : new int[] {0, 3, 6, 9, 1000}) {
            Yard yard = Yards.full(10, 10, 10);
            CHECKS.due("launch(" + hour + ")", yard.launch(hour), yard.water(hour) - 15);
            CHECKS.holds("afloat", yard.isAfloat());
            CHECKS.due("5000 for it", yard.money(), 8600);
            CHECKS.wrongState("again", yard, () -> yard.launch(0));
            CHECKS.wrongArgument("again, hour 1001", yard, () -> yard.launch(1001));
        }
        Yard loose = Yards.withFlaw(0, 100);
        CHECKS.wrongState("nothing stands", loose, () -> loose.launch(0));
    }

    private static void launchAsksForTwenty() {
        for (int frame : new int[] {3, 8}) {
            boolean isMet = false;
            boolean isMissed = false;
            for (int more = 0; more <= 100; more++) {
                Yard yard = heavy(frame, more);
                int margin = yard.water(3) - yard.draught(frame == 8);
                CHECKS.holds("the other draught is less", yard.draught(frame == 8) > yard.draught(frame == 3));
                if (margin == 20) {
                    CHECKS.due("20 are enough", yard.launch(3), 20);
                    isMet = true;
                }
                if (margin == 19) {
                    CHECKS.wrongState("19 are not", yard, () -> yard.launch(3));
                    CHECKS.due("an hour later", yard.launch(4), 49);
                    isMissed = true;
                }
            }
            CHECKS.holds("both edges were met", isMet && isMissed);
        }
    }

    /** Things in the three rooms of a frame, so that one end lies some 650 deep. */
    private static Yard heavy(int frame, int more) {
        Yard yard = Yards.full(96, 96, 96);
        for (int level = 0; level < 3; level++) {
            yard.paint(12 * level + frame);
        }
        for (int times = 0; times < 3; times++) {
            yard.fit(frame, 100);
            yard.fit(frame + 12, 100);
        }
        yard.fit(frame + 24, 50);
        for (int times = 0; times < more; times++) {
            yard.fit(frame + 24, 1);
        }
        return yard;
    }

    private static void launchIsRefused() {
        Yard yard = Yards.full(10, 10, 10);
        CHECKS.wrongArgument("launch(-1)", yard, () -> yard.launch(-1));
        CHECKS.wrongArgument("launch(1001)", yard, () -> yard.launch(1001));
        Yard open = Yards.twoRows();
        open.block(0, 10, 2, 1, 0, 8);
        open.erect(2, 0);
        CHECKS.wrongState("a cell is not filled", open, () -> open.launch(0));
        open.block(11, 11, 2, 1, 0, 8);
        open.erect(3, 0);
        CHECKS.wrongState("a weld is not tested", open, () -> open.launch(0));
        open.test(0);
        CHECKS.due("now", open.launch(0), 600 - Math.max(open.draught(true), open.draught(false)));
    }

    private static void launchAsksForWelds() {
        Yard yard = Yards.eager();
        yard.block(0, 5, 0, 10, 0, 8);
        yard.block(6, 9, 0, 10, 0, 8);
        yard.block(10, 11, 0, 10, 0, 8);
        yard.welder(1, 100);
        yard.join(0, 1, 0);
        yard.join(3, 2, 1);
        yard.block(0, 0, 1, 1, 0, 1);
        yard.block(1, 1, 1, 1, 0, 1);
        yard.join(5, 6, 1);
        yard.block(0, 0, 2, 1, 0, 1);
        yard.block(1, 1, 2, 1, 0, 1);
        yard.join(8, 9, 1);
        yard.scrap(10);
        yard.erect(4, 0);
        yard.erect(yard.block(0, 11, 1, 10, 0, 8), 0);
        yard.erect(yard.block(0, 11, 2, 10, 0, 8), 0);
        CHECKS.wrongState("welds of parts of parts are not tested", yard, () -> yard.launch(6));
        yard.test(0);
        CHECKS.wrongState("one of them still", yard, () -> yard.launch(6));
        yard.test(1);
        CHECKS.wrongState("it is bad", yard, () -> yard.launch(6));
        yard.repair(1, 0);
        CHECKS.wrongState("repaired, not tested", yard, () -> yard.launch(6));
        yard.test(1);
        CHECKS.due("a weld of a loose one is untested", yard.weld(2, 0), Stowfinish.UNTESTED);
        CHECKS.due("now, for these are of no matter", yard.launch(6), 780 - Math.max(yard.draught(true), yard.draught(false)));
    }
}
