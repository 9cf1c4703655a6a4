import java.util.ArrayDeque;
import java.util.ArrayList;
import java.util.HashMap;
import java.util.HashSet;
import java.util.List;
import java.util.Map;
import java.util.Set;
import java.util.TreeSet;

/**
 * The same yard once more, as plainly as can be: it keeps what happened and reckons every answer anew.
 * It is written from the document alone and shares nothing with Stowfinish.
 */
final class Oracle {
    static final class Block {
        int number, first, last, level, tons, length, lugs;
        int kind = 0;
        int begin = -1;
        List<Block> parts = new ArrayList<>();

        void collect(List<Block> all) {
            all.add(this);
            for (Block part : parts) {
                part.collect(all);
            }
        }
    }

    static final class Weld {
        Block block;
        int frame;
        int state = 0;
        int repairs = 0;
        boolean isFlawed;
    }

    final List<Block> blocks = new ArrayList<>();
    final List<Weld> welds = new ArrayList<>();
    final List<List<Integer>> pipes = new ArrayList<>();
    final Set<Integer> painted = new TreeSet<>();
    final Map<Integer, Integer> things = new HashMap<>();
    final Set<List<Integer>> holes = new HashSet<>();
    final int[] flaws = {10, 10, 10, 10};
    int x = 1, door = 6, hold = 300, craneFrame = 0, craneTons = 200;
    boolean isAfloat = false;

    long answer(Call.Kind kind, int[] a) {
        switch (kind) {
            case HALL: return hall(a[0], a[1]);
            case CRANE: return crane(a[0], a[1]);
            case WELDER: return welder(a[0], a[1]);
            case DRAW: return draw(a[0]);
            case BLOCK: return block(a);
            case JOIN: return join(a[0], a[1], a[2]);
            case ERECT: return erect(a[0], a[1]);
            case SCRAP: return scrap(a[0]);
            case TEST: return test(a[0]);
            case REPAIR: return repair(a[0], a[1]);
            case HOLE: return hole(a[0], a[1] != 0);
            case PAINT: return paint(a[0]);
            case FIT: return fit(a[0], a[1]);
            case PIPE: return pipe(a[0], a[1]);
            case LAUNCH: return launch(a[0]);
            case BLOCKS: return blocks.size();
            case WELDS: return welds.size();
            case IS_AFLOAT: return isAfloat ? 1 : 0;
            case WHY_NOT: return why(blockOf(a[0]));
            case TOLD: return told(a[0], a[1]);
            case WELD: return weld(a[0], a[1]);
            case CELL: return cell(a[0], a[1]);
            case ROOM_AT: return roomAt(a[0], a[1]);
            case TONS: case TONS_ANEW: return tons();
            case CENTRE: return centre();
            case DRAUGHT: return draught(a[0] != 0);
            case WATER: return water(a[0]);
            case FIRST_HOUR: return firstHour();
            default: return money();
        }
    }

    private static void asTold(boolean isThere) {
        if (!isThere) {
            throw new IndexOutOfBoundsException();
        }
    }

    private static void inRange(int number, int least, int most) {
        if (number < least || number > most) {
            throw new IllegalArgumentException();
        }
    }

    private static void must(boolean can) {
        if (!can) {
            throw new IllegalStateException();
        }
    }

    private Block blockOf(int block) {
        asTold(block >= 0 && block < blocks.size());
        return blocks.get(block);
    }

    private Weld weldOf(int weld) {
        asTold(weld >= 0 && weld < welds.size());
        return welds.get(weld);
    }

    private int hall(int frames, int tons) {
        inRange(frames, 1, 12);
        inRange(tons, 1, 1000);
        int before = door;
        door = frames;
        hold = tons;
        return before;
    }

    private int crane(int frame, int tons) {
        asTold(frame >= 0 && frame <= 11);
        inRange(tons, 1, 1000);
        int before = craneTons;
        craneFrame = frame;
        craneTons = tons;
        return before;
    }

    private int welder(int welder, int of) {
        asTold(welder >= 0 && welder <= 3);
        inRange(of, 0, 100);
        int before = flaws[welder];
        flaws[welder] = of;
        return before;
    }

    private int draw(int to) {
        int before = x;
        x = to;
        return before;
    }

    private int block(int[] a) {
        asTold(a[0] >= 0 && a[0] <= 11 && a[1] >= 0 && a[1] <= 11 && a[2] >= 0 && a[2] <= 2);
        inRange(a[1], a[0], 11);
        inRange(a[3], 1, 200);
        inRange(a[4], 0, 60);
        inRange(a[5], 1, 8);
        must(blocks.size() < 60 && !isAfloat);
        return add(a[0], a[1], a[2], a[3], 1000 * (a[1] - a[0] + 1) + a[4], a[5]).number;
    }

    private Block add(int first, int last, int level, int tons, int length, int lugs) {
        Block block = new Block();
        block.number = blocks.size();
        block.first = first;
        block.last = last;
        block.level = level;
        block.tons = tons;
        block.length = length;
        block.lugs = lugs;
        blocks.add(block);
        return block;
    }

    private int join(int block, int other, int welder) {
        Block one = blockOf(block);
        Block two = blockOf(other);
        asTold(welder >= 0 && welder <= 3);
        must(one.kind == 0 && two.kind == 0 && one.level == two.level && one.last + 1 == two.first);
        must(two.last - one.first < door && one.tons + two.tons < hold);
        must(blocks.size() < 60 && welds.size() < 100);
        int shrinks = one.level == 0 ? 3 : one.level == 1 ? 2 : 1;
        Block whole = add(one.first, two.last, one.level, one.tons + two.tons + 1,
                one.length + two.length - shrinks, one.lugs + two.lugs);
        whole.parts = List.of(one, two);
        one.kind = 1;
        two.kind = 1;
        makeWeld(whole, two.first, welder);
        return whole.number;
    }

    private void makeWeld(Block block, int frame, int welder) {
        Weld weld = new Weld();
        weld.block = block;
        weld.frame = frame;
        welds.add(weld);
        weldAt(weld, welder);
    }

    private void weldAt(Weld weld, int welder) {
        long next = (x * 1103515245L + 12345L) & 0xffffffffL;
        x = (int) next;
        weld.isFlawed = (next / 65536) % 100 < flaws[welder];
        weld.state = 0;
        if (kindOf(weld) == 2) {
            painted.remove(12 * weld.block.level + weld.frame);
            painted.remove(12 * weld.block.level + weld.frame - 1);
        }
    }

    /** The kind of the block that the weld is in, however deep: 0, 2 or 3. */
    private int kindOf(Weld weld) {
        for (Block block : blocks) {
            List<Block> all = new ArrayList<>();
            block.collect(all);
            if (block.kind != 1 && all.contains(weld.block)) {
                return block.kind;
            }
        }
        throw new AssertionError("a weld of no block");
    }

    /** The standing block in a cell; null if there is none. */
    private Block standing(int frame, int level) {
        for (Block block : blocks) {
            if (block.kind == 2 && block.level == level && block.first <= frame && frame <= block.last) {
                return block;
            }
        }
        return null;
    }

    private boolean isRoom(int cell) {
        return cell >= 0 && cell < 36 && standing(cell % 12, cell / 12) != null;
    }

    private int why(Block block) {
        if (block.kind != 0 || isAfloat) {
            return 1;
        }
        int filled = 0;
        int below = 0;
        for (int frame = block.first; frame <= block.last; frame++) {
            filled += standing(frame, block.level) == null ? 0 : 1;
            below += block.level == 0 || standing(frame, block.level - 1) != null ? 1 : 0;
        }
        if (filled > 0) {
            return 2;
        }
        if (below < block.last - block.first + 1) {
            return 3;
        }
        int far = Math.abs(block.first - craneFrame);
        far = Math.abs(block.last - craneFrame) > far ? Math.abs(block.last - craneFrame) : far;
        if (block.tons > craneTons - 5 * far) {
            return 4;
        }
        if (block.tons * 5 > block.lugs * 60) {
            return 5;
        }
        Block ahead = standing(block.first - 1, block.level);
        Block behind = standing(block.last + 1, block.level);
        if (ahead == null || behind == null) {
            return 0;
        }
        int space = behind.begin - ahead.begin - ahead.length - 8;
        return block.length > space + 60 || block.length < space - 12 ? 6 : 0;
    }

    private int erect(int number, int welder) {
        Block block = blockOf(number);
        asTold(welder >= 0 && welder <= 3);
        must(why(block) == 0);
        Block ahead = standing(block.first - 1, block.level);
        Block behind = standing(block.last + 1, block.level);
        int more = (ahead != null ? 1 : 0) + (behind != null ? 1 : 0);
        must(welds.size() + more <= 100);
        int before = block.length;
        if (more == 2) {
            block.length = Math.min(before, behind.begin - ahead.begin - ahead.length - 8);
        }
        block.begin = 1000 * block.first;
        if (behind != null) {
            block.begin = behind.begin - 4 - block.length;
        }
        if (ahead != null) {
            block.begin = ahead.begin + ahead.length + 4;
        }
        block.kind = 2;
        if (ahead != null) {
            makeWeld(block, block.first, welder);
        }
        if (behind != null) {
            makeWeld(block, block.last + 1, welder);
        }
        return before - block.length;
    }

    private int scrap(int number) {
        Block block = blockOf(number);
        must(block.kind == 0);
        List<Block> all = new ArrayList<>();
        block.collect(all);
        for (Block each : all) {
            each.kind = 3;
        }
        return all.size();
    }

    private int test(int number) {
        Weld weld = weldOf(number);
        must(weld.state == 0 && weld.block.kind != 3);
        weld.state = weld.isFlawed ? 2 : 1;
        return weld.state;
    }

    private int repair(int number, int welder) {
        Weld weld = weldOf(number);
        asTold(welder >= 0 && welder <= 3);
        must(weld.state == 2 && weld.block.kind != 3 && weld.repairs < 2 && !isAfloat);
        weld.repairs++;
        weldAt(weld, welder);
        return weld.repairs;
    }

    private int hole(int room, boolean isUp) {
        asTold(isRoom(room));
        int other = isUp ? room + 12 : room + 1;
        asTold(isRoom(other) && (isUp || other % 12 != 0));
        must(!isAfloat && holes.add(List.of(room, other)));
        return (painted.remove(room) ? 1 : 0) + (painted.remove(other) ? 1 : 0);
    }

    private int paint(int room) {
        asTold(isRoom(room));
        must(painted.add(room));
        return painted.size();
    }

    private int fit(int room, int tons) {
        asTold(isRoom(room));
        inRange(tons, 1, 100);
        int now = things.getOrDefault(room, 0) + tons;
        must(painted.contains(room) && now <= 300);
        things.put(room, now);
        return now;
    }

    private int pipesOf(int room) {
        int pipesOf = 0;
        for (List<Integer> pipe : pipes) {
            pipesOf += pipe.contains(room) ? 1 : 0;
        }
        return pipesOf;
    }

    private int pipe(int room, int to) {
        asTold(isRoom(room) && isRoom(to));
        if (room == to) {
            throw new IllegalArgumentException();
        }
        List<Integer> way = way(room, to);
        must(way != null && pipes.size() < 30);
        pipes.add(way);
        return way.size();
    }

    /** Ways are lengthened in their order, so that the first one that arrives is the one to take. */
    private List<Integer> way(int room, int to) {
        ArrayDeque<List<Integer>> ways = new ArrayDeque<>();
        Set<Integer> reached = new HashSet<>();
        if (pipesOf(room) < 3) {
            ways.add(List.of(room));
            reached.add(room);
        }
        while (!ways.isEmpty()) {
            List<Integer> way = ways.remove();
            int last = way.get(way.size() - 1);
            if (last == to) {
                return way;
            }
            for (int next = 0; next < 36; next++) {
                boolean isHole = holes.contains(List.of(last, next)) || holes.contains(List.of(next, last));
                if (isHole && pipesOf(next) < 3 && reached.add(next)) {
                    List<Integer> longer = new ArrayList<>(way);
                    longer.add(next);
                    ways.add(longer);
                }
            }
        }
        return null;
    }

    private boolean isReady() {
        for (int cell = 0; cell < 36; cell++) {
            if (!isRoom(cell)) {
                return false;
            }
        }
        for (Weld weld : welds) {
            if (kindOf(weld) == 2 && weld.state != 1) {
                return false;
            }
        }
        return !isAfloat;
    }

    private int launch(int hour) {
        inRange(hour, 0, 1000);
        int more = Math.min(water(hour) - draught(true), water(hour) - draught(false));
        must(isReady() && more >= 20);
        isAfloat = true;
        return more;
    }

    private int told(int number, int what) {
        Block block = blockOf(number);
        inRange(what, 0, 7);
        int[] all = {block.kind, block.first, block.last, block.level, block.tons, block.length, block.lugs,
            block.kind == 2 ? block.begin : -1};
        return all[what];
    }

    private int weld(int number, int what) {
        Weld weld = weldOf(number);
        inRange(what, 0, 3);
        int[] all = {weld.state, weld.repairs, weld.frame, weld.block.level};
        return all[what];
    }

    private int cell(int cell, int what) {
        asTold(cell >= 0 && cell < 36);
        inRange(what, 0, 4);
        Block block = standing(cell % 12, cell / 12);
        int together = (holes.contains(List.of(cell - 1, cell)) ? 1 : 0)
                + (holes.contains(List.of(cell, cell + 1)) ? 2 : 0)
                + (holes.contains(List.of(cell - 12, cell)) ? 4 : 0)
                + (holes.contains(List.of(cell, cell + 12)) ? 8 : 0);
        int[] all = {block == null ? -1 : block.number, painted.contains(cell) ? 1 : 0,
            things.getOrDefault(cell, 0), pipesOf(cell), together};
        return all[what];
    }

    private int roomAt(int pipe, int place) {
        asTold(pipe >= 0 && pipe < pipes.size() && place >= 0);
        return place < pipes.get(pipe).size() ? pipes.get(pipe).get(place) : -1;
    }

    private int tons() {
        int tons = 0;
        for (Block block : blocks) {
            tons += block.kind == 2 ? block.tons : 0;
        }
        for (int cell = 0; cell < 36; cell++) {
            tons += things.getOrDefault(cell, 0) + pipesOf(cell);
        }
        return tons;
    }

    private int centre() {
        long moment = 0;
        for (Block block : blocks) {
            moment += block.kind == 2 ? (long) block.tons * (block.first + block.last) : 0;
        }
        for (int cell = 0; cell < 36; cell++) {
            moment += (things.getOrDefault(cell, 0) + pipesOf(cell)) * 2L * (cell % 12);
        }
        return tons() == 0 ? 0 : (int) Math.floorDiv(50 * moment, (long) tons());
    }

    private int draught(boolean isBehind) {
        long trim = (centre() - 550L) * tons() / 1000;
        return (int) (Math.floorDiv(tons(), 2) + (isBehind ? trim : -trim));
    }

    private int water(int hour) {
        inRange(hour, 0, 1000);
        int water = 600;
        for (int passed = 1; passed <= hour % 12; passed++) {
            water += passed <= 6 ? 30 : -30;
        }
        return water;
    }

    private int firstHour() {
        for (int hour = 0; hour <= 1000; hour++) {
            if (isReady() && water(hour) - draught(true) >= 20 && water(hour) - draught(false) >= 20) {
                return hour;
            }
        }
        return -1;
    }

    private int money() {
        int money = isAfloat ? 5000 : 0;
        for (int cell = 0; cell < 36; cell++) {
            money += isRoom(cell) ? 100 : 0;
        }
        for (Weld weld : welds) {
            money -= 20 + 30 * weld.repairs;
        }
        return money;
    }
}
