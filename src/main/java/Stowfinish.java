import java.util.Arrays;

/**
 * A yard that builds a ship of steel. The document (../shared/DOC.md) says what each call does;
 * comments here say only why something is done as it is.
 */
public final class Stowfinish {
    public static final int NONE = -1;
    public static final int LOOSE = 0, PART = 1, STANDING = 2, SCRAPPED = 3;
    public static final int UNTESTED = 0, GOOD = 1, BAD = 2;

    private static final int FRAMES = 12, LEVELS = 3, CELLS = FRAMES * LEVELS;
    private static final int MOST_BLOCKS = 60, MOST_WELDS = 100, MOST_PIPES = 30, WELDERS = 4;
    private static final int MOST_REPAIRS = 2, MOST_PIPES_OF_ROOM = 3, MOST_THINGS = 300;
    private static final int MILLIMETRES = 1000, GAP = 4, MOST_LONGER = 60, MOST_SHORTER = 12;
    private static final int HOLE_AHEAD = 1, HOLE_BEHIND = 2, HOLE_DOWN = 4, HOLE_UP = 8;
    private static final int LAST_HOUR = 1000, TIDE = 12, CLEARANCE = 20;
    private static final int PAID_ROOM = 100, PAID_LAUNCH = 5000, PAYS_WELD = 20, PAYS_REPAIR = 30;
    // Each room is entered once at most, each weld once and for each repair, the launch once.
    private static final int MOST_ENTRIES = CELLS + MOST_WELDS * (1 + MOST_REPAIRS) + 1;

    // The sides of a room, so ordered that the lower room beside it comes first.
    private static final int[] SIDE_STEPS = {-FRAMES, -1, 1, FRAMES};
    private static final int[] SIDE_HOLES = {HOLE_DOWN, HOLE_AHEAD, HOLE_BEHIND, HOLE_UP};

    private static final class Block {
        final int number, first, last, level, tons, lugs;
        int length, begin, kind;
        /** The block that this one is a part of; null if it is none. */
        Block whole;

        Block(int number, int first, int last, int level, int tons, int length, int lugs) {
            this.number = number;
            this.first = first;
            this.last = last;
            this.level = level;
            this.tons = tons;
            this.length = length;
            this.lugs = lugs;
            this.begin = 0;
            this.kind = LOOSE;
            this.whole = null;
        }

        int frames() {
            return last - first + 1;
        }

        int end() {
            return begin + length;
        }

        /** The block that this one has ended in by joins: itself, if it is no part. */
        Block outermost() {
            Block block = this;
            while (block.whole != null) {
                block = block.whole;
            }
            return block;
        }

        /** The tons that lie in one of its cells. */
        int tonsAt(int frame) {
            int frames = frames();
            if (frames < 1) {
                return 0;
            }
            int share = tons / frames;
            return frame == first ? share + tons % frames : share;
        }

        int fact(int what) {
            switch (what) {
                case 0: return kind;
                case 1: return first;
                case 2: return last;
                case 3: return level;
                case 4: return tons;
                case 5: return length;
                case 6: return lugs;
                default: return kind == STANDING ? begin : NONE;
            }
        }
    }

    private static final class Weld {
        /** What it is a weld of: the block made by the join, or the one whose erection made it. */
        final Block block;
        /** The first frame of the block behind it. */
        final int frame;
        int state, repairs;
        boolean isFlawed;

        Weld(Block block, int frame) {
            this.block = block;
            this.frame = frame;
            this.state = UNTESTED;
            this.repairs = 0;
            this.isFlawed = false;
        }

        boolean isScrapped() {
            return block.outermost().kind == SCRAPPED;
        }

        boolean isStanding() {
            return block.outermost().kind == STANDING;
        }

        int fact(int what) {
            switch (what) {
                case 0: return state;
                case 1: return repairs;
                case 2: return frame;
                default: return block.level;
            }
        }
    }

    private static final class Room {
        final int cell;
        final Block block;
        boolean isPainted;
        int things, pipes, holes;
        /** Over how many rooms it is to the end of the way that is sought, both counted; 0 if there is no way. */
        int away;

        Room(int cell, Block block) {
            this.cell = cell;
            this.block = block;
            this.isPainted = false;
            this.things = 0;
            this.pipes = 0;
            this.holes = 0;
            this.away = 0;
        }

        int frame() {
            return cell % FRAMES;
        }

        boolean hasAllPipes() {
            return pipes >= MOST_PIPES_OF_ROOM;
        }

        /** Spoils its paint; answers how many painted rooms were spoiled by that. */
        int spoil() {
            int spoiled = isPainted ? 1 : 0;
            isPainted = false;
            return spoiled;
        }

        int fact(int what) {
            switch (what) {
                case 0: return block.number;
                case 1: return isPainted ? 1 : 0;
                case 2: return things;
                case 3: return pipes;
                default: return holes;
            }
        }
    }

    private static final class Pipe {
        final int[] cells;

        Pipe(int[] cells) {
            this.cells = cells;
        }
    }

    /** The welders, and the draw that all of them share. */
    private static final class Welders {
        final int[] flaws;
        int x;

        Welders() {
            this.flaws = new int[WELDERS];
            Arrays.fill(this.flaws, 10);
            this.x = 1;
        }

        boolean has(int welder) {
            return welder >= 0 && welder < flaws.length;
        }

        /** Draws anew: is what this welder makes now flawed? */
        boolean drawFlaw(int welder) {
            x = x * 1103515245 + 12345;
            return welder >= 0 && welder < flaws.length && (x >>> 16) % 100 < flaws[welder];
        }
    }

    /** What was paid, kept as a sum and as a log, so that each can be held against the other. */
    private static final class Ledger {
        final int[] entries;
        int count, sum;

        Ledger() {
            this.entries = new int[MOST_ENTRIES];
            this.count = 0;
            this.sum = 0;
        }

        void enter(int amount) {
            if (count >= 0 && count < entries.length) {
                entries[count] = amount;
                count++;
                sum += amount;
            }
        }

        int sumOfEntries() {
            int anew = 0;
            for (int i = 0; i < count && i < entries.length; i++) {
                anew += entries[i];
            }
            return anew;
        }
    }

    /** What stands on the berth: its rooms, its weight, and how it would lie in the water. */
    private static final class Hull {
        final Room[] rooms;
        int tons, moment;

        Hull() {
            this.rooms = new Room[CELLS];
            this.tons = 0;
            this.moment = 0;
        }

        /** The room that a cell is; null if it is not filled, or there is no such cell. */
        Room roomOf(int cell) {
            return cell >= 0 && cell < rooms.length ? rooms[cell] : null;
        }

        Room roomOn(int frame, int level) {
            return roomOf(cellOf(frame, level));
        }

        /** The standing block at a frame; null if there is none. */
        Block blockAt(int frame, int level) {
            Room room = roomOn(frame, level);
            return room == null ? null : room.block;
        }

        void load(int more, int twiceFrame) {
            tons += more;
            moment += more * twiceFrame;
        }

        void fill(Block block) {
            for (int frame = block.first; frame <= block.last; frame++) {
                int cell = cellOf(frame, block.level);
                if (cell >= 0 && cell < rooms.length) {
                    rooms[cell] = new Room(cell, block);
                }
            }
            load(block.tons, block.first + block.last);
        }

        boolean isFull() {
            for (Room room : rooms) {
                if (room == null) {
                    return false;
                }
            }
            return true;
        }

        int painted() {
            int painted = 0;
            for (Room room : rooms) {
                if (room != null && room.isPainted) {
                    painted++;
                }
            }
            return painted;
        }

        int tonsOfCells() {
            int anew = 0;
            for (Room room : rooms) {
                if (room != null) {
                    anew += room.block.tonsAt(room.frame()) + room.things + room.pipes;
                }
            }
            return anew;
        }

        int balance() {
            return tons <= 0 ? 0 : 50 * moment / tons;
        }

        int depth(boolean isBehind) {
            int mean = tons / 2;
            int trim = (balance() - 550) * tons / 1000;
            return isBehind ? mean + trim : mean - trim;
        }

        int greaterDepth() {
            return Math.max(depth(true), depth(false));
        }
    }

    /** Seeks the shortest way of a pipe, over the holes and the rooms that can take one more. */
    private static final class Ways {
        final Hull hull;

        Ways(Hull hull) {
            this.hull = hull;
        }

        /** The cells of the way; null if there is none. */
        int[] seek(Room from, Room to) {
            measure(to);
            if (from.away < 1) {
                return null;
            }
            int[] cells = new int[from.away];
            Room room = from;
            for (int place = 0; place < cells.length && room != null; place++) {
                cells[place] = room.cell;
                room = lowestNearer(room);
            }
            return cells;
        }

        // It is measured from the end, so that the way can be chosen from its beginning on.
        private void measure(Room to) {
            for (Room room : hull.rooms) {
                if (room != null) {
                    room.away = 0;
                }
            }
            if (to.hasAllPipes()) {
                return;
            }
            to.away = 1;
            boolean isSpreading = true;
            for (int away = 1; isSpreading && away < CELLS; away++) {
                isSpreading = spreadAll(away);
            }
        }

        private boolean spreadAll(int away) {
            boolean isSpreading = false;
            for (Room room : hull.rooms) {
                if (room != null && room.away == away && spread(room)) {
                    isSpreading = true;
                }
            }
            return isSpreading;
        }

        private boolean spread(Room room) {
            boolean isSpreading = false;
            for (int side = 0; side < SIDE_HOLES.length; side++) {
                Room next = through(room, side);
                if (next != null && next.away == 0) {
                    next.away = room.away + 1;
                    isSpreading = true;
                }
            }
            return isSpreading;
        }

        private Room lowestNearer(Room room) {
            for (int side = 0; side < SIDE_HOLES.length; side++) {
                Room next = through(room, side);
                if (next != null && next.away == room.away - 1) {
                    return next;
                }
            }
            return null;
        }

        /** The room behind a hole, if it can take one more pipe; null if there is none. */
        private Room through(Room room, int side) {
            if (side < 0 || side >= SIDE_STEPS.length || side >= SIDE_HOLES.length) {
                return null;
            }
            // Holes are made only between rooms beside each other, so the step never goes round a frame's end.
            if ((room.holes & SIDE_HOLES[side]) == 0) {
                return null;
            }
            Room next = hull.roomOf(room.cell + SIDE_STEPS[side]);
            return next == null || next.hasAllPipes() ? null : next;
        }
    }

    private final Block[] blocks;
    private final Weld[] welds;
    private final Pipe[] pipes;
    private final Hull hull;
    private final Ways ways;
    private final Welders welders;
    private final Ledger ledger;
    private int blockCount, weldCount, pipeCount;
    private int doorFrames, hallTons, craneFrame, craneTons;
    private boolean isLaunched;

    public Stowfinish() {
        this.blocks = new Block[MOST_BLOCKS];
        this.welds = new Weld[MOST_WELDS];
        this.pipes = new Pipe[MOST_PIPES];
        this.hull = new Hull();
        this.ways = new Ways(this.hull);
        this.welders = new Welders();
        this.ledger = new Ledger();
        this.blockCount = 0;
        this.weldCount = 0;
        this.pipeCount = 0;
        this.doorFrames = 6;
        this.hallTons = 300;
        this.craneFrame = 0;
        this.craneTons = 200;
        this.isLaunched = false;
    }

    // ---- what is told

    public int hall(int frames, int tons) throws IllegalArgumentException {
        if (!isWithin(frames, 1, FRAMES) || !isWithin(tons, 1, 1000)) {
            throw new IllegalArgumentException("frames or tons out of range");
        }
        int before = doorFrames;
        doorFrames = frames;
        hallTons = tons;
        return before;
    }

    public int crane(int frame, int tons) throws IndexOutOfBoundsException, IllegalArgumentException {
        if (!isFrame(frame)) {
            throw new IndexOutOfBoundsException("no such frame");
        }
        if (!isWithin(tons, 1, 1000)) {
            throw new IllegalArgumentException("tons out of range");
        }
        int before = craneTons;
        craneFrame = frame;
        craneTons = tons;
        return before;
    }

    public int welder(int welder, int flaws) throws IndexOutOfBoundsException, IllegalArgumentException {
        if (welder < 0 || welder >= welders.flaws.length) {
            throw new IndexOutOfBoundsException("no such welder");
        }
        if (!isWithin(flaws, 0, 100)) {
            throw new IllegalArgumentException("flaws out of range");
        }
        int before = welders.flaws[welder];
        welders.flaws[welder] = flaws;
        return before;
    }

    public int draw(int x) {
        int before = welders.x;
        welders.x = x;
        return before;
    }

    // ---- blocks, welds

    public int block(int first, int last, int level, int tons, int more, int lugs)
            throws IndexOutOfBoundsException, IllegalArgumentException, IllegalStateException {
        if (!isFrame(first) || !isFrame(last) || !isWithin(level, 0, LEVELS - 1)) {
            throw new IndexOutOfBoundsException("no such frame or level");
        }
        if (last < first || !isWithin(tons, 1, 200) || !isWithin(more, 0, 60) || !isWithin(lugs, 1, 8)) {
            throw new IllegalArgumentException("last, tons, more or lugs out of range");
        }
        if (isLaunched || !hasSpaceForBlock()) {
            throw new IllegalStateException("afloat, or no more blocks");
        }
        int length = MILLIMETRES * (last - first + 1) + more;
        return keep(new Block(blockCount, first, last, level, tons, length, lugs));
    }

    public int join(int block, int other, int welder)
            throws IndexOutOfBoundsException, IllegalStateException {
        Block ahead = blockOf(block);
        Block behind = blockOf(other);
        if (ahead == null || behind == null || !welders.has(welder)) {
            throw new IndexOutOfBoundsException("no such block or welder");
        }
        if (!canJoin(ahead, behind) || !hasSpaceForBlock() || !hasSpaceForWelds(1)) {
            throw new IllegalStateException("cannot be joined");
        }
        int length = ahead.length + behind.length - (LEVELS - ahead.level);
        Block whole = new Block(blockCount, ahead.first, behind.last, ahead.level,
                tonsTogether(ahead, behind), length, ahead.lugs + behind.lugs);
        becomePart(ahead, whole);
        becomePart(behind, whole);
        makeWeld(whole, behind.first, welder);
        return keep(whole);
    }

    public int erect(int block, int welder) throws IndexOutOfBoundsException, IllegalStateException {
        Block built = blockOf(block);
        if (built == null || !welders.has(welder)) {
            throw new IndexOutOfBoundsException("no such block or welder");
        }
        Block ahead = neighbourAhead(built);
        Block behind = neighbourBehind(built);
        int made = (ahead == null ? 0 : 1) + (behind == null ? 0 : 1);
        if (reasonAgainst(built) != 0 || !hasSpaceForWelds(made)) {
            throw new IllegalStateException("cannot be put on the berth");
        }
        int cut = ahead == null || behind == null ? 0 : Math.max(0, excess(built, ahead, behind));
        built.length -= cut;
        built.begin = beginOf(built, ahead, behind);
        built.kind = STANDING;
        hull.fill(built);
        ledger.enter(PAID_ROOM * built.frames());
        if (ahead != null) {
            makeWeld(built, built.first, welder);
        }
        if (behind != null) {
            makeWeld(built, behind.first, welder);
        }
        return cut;
    }

    public int scrap(int block) throws IndexOutOfBoundsException, IllegalStateException {
        Block target = blockOf(block);
        if (target == null) {
            throw new IndexOutOfBoundsException("no such block");
        }
        if (target.kind != LOOSE) {
            throw new IllegalStateException("not loose");
        }
        int scrapped = 0;
        for (Block each : blocks) {
            if (each != null && each.outermost() == target) {
                each.kind = SCRAPPED;
                scrapped++;
            }
        }
        return scrapped;
    }

    public int test(int weld) throws IndexOutOfBoundsException, IllegalStateException {
        Weld tested = weldOf(weld);
        if (tested == null) {
            throw new IndexOutOfBoundsException("no such weld");
        }
        if (tested.state != UNTESTED || tested.isScrapped()) {
            throw new IllegalStateException("not untested, or scrapped");
        }
        tested.state = tested.isFlawed ? BAD : GOOD;
        return tested.state;
    }

    public int repair(int weld, int welder) throws IndexOutOfBoundsException, IllegalStateException {
        Weld repaired = weldOf(weld);
        if (repaired == null || !welders.has(welder)) {
            throw new IndexOutOfBoundsException("no such weld or welder");
        }
        if (repaired.state != BAD || repaired.isScrapped() || repaired.repairs >= MOST_REPAIRS || isLaunched) {
            throw new IllegalStateException("cannot be repaired");
        }
        repaired.repairs++;
        weldNow(repaired, welder);
        ledger.enter(-PAYS_REPAIR);
        return repaired.repairs;
    }

    // ---- rooms

    public int hole(int room, boolean isUp) throws IndexOutOfBoundsException, IllegalStateException {
        Room near = hull.roomOf(room);
        Room far = near == null ? null : roomNextTo(near, isUp);
        if (near == null || far == null) {
            throw new IndexOutOfBoundsException("no such room");
        }
        int hole = isUp ? HOLE_UP : HOLE_BEHIND;
        if ((near.holes & hole) != 0 || isLaunched) {
            throw new IllegalStateException("there is one, or afloat");
        }
        near.holes |= hole;
        far.holes |= isUp ? HOLE_DOWN : HOLE_AHEAD;
        return near.spoil() + far.spoil();
    }

    public int paint(int room) throws IndexOutOfBoundsException, IllegalStateException {
        Room bare = hull.roomOf(room);
        if (bare == null) {
            throw new IndexOutOfBoundsException("no such room");
        }
        if (bare.isPainted) {
            throw new IllegalStateException("painted already");
        }
        bare.isPainted = true;
        return hull.painted();
    }

    public int fit(int room, int tons)
            throws IndexOutOfBoundsException, IllegalArgumentException, IllegalStateException {
        Room fitted = hull.roomOf(room);
        if (fitted == null) {
            throw new IndexOutOfBoundsException("no such room");
        }
        if (!isWithin(tons, 1, 100)) {
            throw new IllegalArgumentException("tons out of range");
        }
        if (!fitted.isPainted || fitted.things + tons > MOST_THINGS) {
            throw new IllegalStateException("not painted, or too much in it");
        }
        fitted.things += tons;
        hull.load(tons, 2 * fitted.frame());
        return fitted.things;
    }

    public int pipe(int room, int to)
            throws IndexOutOfBoundsException, IllegalArgumentException, IllegalStateException {
        Room begin = hull.roomOf(room);
        Room end = hull.roomOf(to);
        if (begin == null || end == null) {
            throw new IndexOutOfBoundsException("no such room");
        }
        if (room == to) {
            throw new IllegalArgumentException("both are the same");
        }
        if (pipeCount < 0 || pipeCount >= pipes.length) {
            throw new IllegalStateException("no more pipes");
        }
        int[] cells = ways.seek(begin, end);
        if (cells == null) {
            throw new IllegalStateException("no way");
        }
        pipes[pipeCount] = new Pipe(cells);
        pipeCount++;
        runThrough(cells);
        return cells.length;
    }

    public int launch(int hour) throws IllegalArgumentException, IllegalStateException {
        if (!isWithin(hour, 0, LAST_HOUR)) {
            throw new IllegalArgumentException("hour out of range");
        }
        int more = waterAt(hour) - hull.greaterDepth();
        if (!isReady() || more < CLEARANCE) {
            throw new IllegalStateException("cannot be launched");
        }
        isLaunched = true;
        ledger.enter(PAID_LAUNCH);
        return more;
    }

    // ---- what there is

    public int blocks() {
        return blockCount;
    }

    public int welds() {
        return weldCount;
    }

    public boolean isAfloat() {
        return isLaunched;
    }

    public int whyNot(int block) throws IndexOutOfBoundsException {
        Block asked = blockOf(block);
        if (asked == null) {
            throw new IndexOutOfBoundsException("no such block");
        }
        return reasonAgainst(asked);
    }

    public int told(int block, int what) throws IndexOutOfBoundsException, IllegalArgumentException {
        Block asked = blockOf(block);
        if (asked == null) {
            throw new IndexOutOfBoundsException("no such block");
        }
        if (!isWithin(what, 0, 7)) {
            throw new IllegalArgumentException("what out of range");
        }
        return asked.fact(what);
    }

    public int weld(int weld, int what) throws IndexOutOfBoundsException, IllegalArgumentException {
        Weld asked = weldOf(weld);
        if (asked == null) {
            throw new IndexOutOfBoundsException("no such weld");
        }
        if (!isWithin(what, 0, 3)) {
            throw new IllegalArgumentException("what out of range");
        }
        return asked.fact(what);
    }

    public int cell(int cell, int what) throws IndexOutOfBoundsException, IllegalArgumentException {
        if (!isWithin(cell, 0, CELLS - 1)) {
            throw new IndexOutOfBoundsException("no such cell");
        }
        if (!isWithin(what, 0, 4)) {
            throw new IllegalArgumentException("what out of range");
        }
        Room room = hull.roomOf(cell);
        if (room == null) {
            return what == 0 ? NONE : 0;
        }
        return room.fact(what);
    }

    public int roomAt(int pipe, int place) throws IndexOutOfBoundsException {
        Pipe asked = pipe >= 0 && pipe < pipes.length ? pipes[pipe] : null;
        if (asked == null || place < 0) {
            throw new IndexOutOfBoundsException("no such pipe or place");
        }
        return place < asked.cells.length ? asked.cells[place] : NONE;
    }

    public int tons() {
        return hull.tons;
    }

    public int tonsAnew() {
        return hull.tonsOfCells();
    }

    public int centre() {
        return hull.balance();
    }

    public int draught(boolean isBehind) {
        return hull.depth(isBehind);
    }

    public int water(int hour) throws IllegalArgumentException {
        if (!isWithin(hour, 0, LAST_HOUR)) {
            throw new IllegalArgumentException("hour out of range");
        }
        return waterAt(hour);
    }

    public int firstHour() {
        if (!isReady()) {
            return NONE;
        }
        int least = hull.greaterDepth() + CLEARANCE;
        // The tide comes again: what does not do in the first one never does.
        for (int hour = 0; hour < TIDE; hour++) {
            if (waterAt(hour) >= least) {
                return hour;
            }
        }
        return NONE;
    }

    public int money() {
        return ledger.sum;
    }

    public int moneyAnew() {
        return ledger.sumOfEntries();
    }

    // ---- numbers and places

    private static boolean isWithin(int number, int least, int most) {
        return number >= least && number <= most;
    }

    private static boolean isFrame(int frame) {
        return isWithin(frame, 0, FRAMES - 1);
    }

    /** The number of a cell; NONE if there is none. */
    private static int cellOf(int frame, int level) {
        boolean isCell = frame >= 0 && frame < FRAMES && level >= 0 && level < LEVELS;
        return isCell ? FRAMES * level + frame : NONE;
    }

    private static int waterAt(int hour) {
        int behindLow = hour % TIDE;
        return 600 + 30 * Math.min(behindLow, TIDE - behindLow);
    }

    private Block blockOf(int block) {
        return block >= 0 && block < blocks.length ? blocks[block] : null;
    }

    private Weld weldOf(int weld) {
        return weld >= 0 && weld < welds.length ? welds[weld] : null;
    }

    private boolean hasSpaceForBlock() {
        return blockCount < blocks.length;
    }

    private boolean hasSpaceForWelds(int made) {
        return weldCount + made <= welds.length;
    }

    // ---- the hall

    private int keep(Block block) {
        if (blockCount >= 0 && blockCount < blocks.length) {
            blocks[blockCount] = block;
            blockCount++;
        }
        return block.number;
    }

    private boolean canJoin(Block ahead, Block behind) {
        return ahead.kind == LOOSE && behind.kind == LOOSE
                && ahead.level == behind.level && behind.first == ahead.last + 1
                && ahead.frames() + behind.frames() <= doorFrames
                && tonsTogether(ahead, behind) <= hallTons;
    }

    private static int tonsTogether(Block ahead, Block behind) {
        return ahead.tons + behind.tons + 1;
    }

    private static void becomePart(Block part, Block whole) {
        part.kind = PART;
        part.whole = whole;
    }

    // ---- welds

    private void makeWeld(Block block, int frame, int welder) {
        Weld made = new Weld(block, frame);
        if (weldCount >= 0 && weldCount < welds.length) {
            welds[weldCount] = made;
            weldCount++;
        }
        weldNow(made, welder);
        ledger.enter(-PAYS_WELD);
    }

    private void weldNow(Weld weld, int welder) {
        weld.isFlawed = welders.drawFlaw(welder);
        weld.state = UNTESTED;
        // A weld in the hall has no rooms yet, though another block may fill those cells.
        if (weld.isStanding()) {
            spoilAt(weld.frame - 1, weld.block.level);
            spoilAt(weld.frame, weld.block.level);
        }
    }

    private void spoilAt(int frame, int level) {
        Room room = hull.roomOn(frame, level);
        if (room != null) {
            room.spoil();
        }
    }

    // ---- the berth

    private int reasonAgainst(Block block) {
        if (block.kind != LOOSE || isLaunched) {
            return 1;
        }
        if (isSomeFilled(block)) {
            return 2;
        }
        if (isSomeBelowEmpty(block)) {
            return 3;
        }
        if (block.tons > liftOver(block)) {
            return 4;
        }
        if (5 * block.tons > 60 * block.lugs) {
            return 5;
        }
        return isMisfit(block) ? 6 : 0;
    }

    private boolean isSomeFilled(Block block) {
        for (int frame = block.first; frame <= block.last; frame++) {
            if (hull.roomOn(frame, block.level) != null) {
                return true;
            }
        }
        return false;
    }

    private boolean isSomeBelowEmpty(Block block) {
        if (block.level == 0) {
            return false;
        }
        for (int frame = block.first; frame <= block.last; frame++) {
            if (hull.roomOn(frame, block.level - 1) == null) {
                return true;
            }
        }
        return false;
    }

    private int liftOver(Block block) {
        int distance = Math.max(Math.abs(craneFrame - block.first), Math.abs(craneFrame - block.last));
        return craneTons - 5 * distance;
    }

    private boolean isMisfit(Block block) {
        Block ahead = neighbourAhead(block);
        Block behind = neighbourBehind(block);
        if (ahead == null || behind == null) {
            return false;
        }
        int excess = excess(block, ahead, behind);
        return excess > MOST_LONGER || excess < -MOST_SHORTER;
    }

    private Block neighbourAhead(Block block) {
        return hull.blockAt(block.first - 1, block.level);
    }

    private Block neighbourBehind(Block block) {
        return hull.blockAt(block.last + 1, block.level);
    }

    /** By how much a block is longer than the space between two; below 0 if it is shorter. */
    private static int excess(Block block, Block ahead, Block behind) {
        return block.length - (behind.begin - GAP - (ahead.end() + GAP));
    }

    private static int beginOf(Block block, Block ahead, Block behind) {
        if (ahead != null) {
            return ahead.end() + GAP;
        }
        if (behind != null) {
            return behind.begin - GAP - block.length;
        }
        return MILLIMETRES * block.first;
    }

    // ---- rooms, the launch

    private Room roomNextTo(Room room, boolean isUp) {
        int level = room.block.level;
        return isUp ? hull.roomOn(room.frame(), level + 1) : hull.roomOn(room.frame() + 1, level);
    }

    private void runThrough(int[] cells) {
        for (int cell : cells) {
            Room room = hull.roomOf(cell);
            if (room != null) {
                room.pipes++;
                hull.load(1, 2 * room.frame());
            }
        }
    }

    /** Is all done that the launch asks for, but for the water? */
    private boolean isReady() {
        if (isLaunched || !hull.isFull()) {
            return false;
        }
        for (Weld weld : welds) {
            if (weld != null && weld.isStanding() && weld.state != GOOD) {
                return false;
            }
        }
        return true;
    }
}
