import java.util.ArrayList;
import java.util.EnumMap;
import java.util.List;
import java.util.Map;
import java.util.Random;

/** Runs of calls from fixed seeds: each answer, thrown or given, is held against that of the Oracle. */
public final class RandomRunsTest {
    private static final int RUNS = 200, DEEDS = 300, LATEST_FINISH = 80;

    private final Random random;
    private final Yard yard = new Yard();
    private final Oracle oracle = new Oracle();
    private final List<String> run = new ArrayList<>();
    private final Map<Call.Kind, int[]> counts;
    private boolean isWrong = false;

    private RandomRunsTest(long seed, Map<Call.Kind, int[]> counts) {
        this.random = new Random(seed);
        this.counts = counts;
    }

    public static void main(String[] args) {
        int runs = args.length > 0 ? Integer.parseInt(args[0]) : RUNS;
        Map<Call.Kind, int[]> counts = new EnumMap<>(Call.Kind.class);
        for (Call.Kind kind : Call.Kind.values()) {
            counts.put(kind, new int[2]);
        }
        for (int seed = 0; seed < runs; seed++) {
            RandomRunsTest test = new RandomRunsTest(seed, counts);
            if (!test.runs()) {
                System.out.println("seed " + seed + ":\n" + String.join("\n", test.run));
                System.exit(1);
            }
        }
        for (Map.Entry<Call.Kind, int[]> each : counts.entrySet()) {
            int[] count = each.getValue();
            if (count[0] == 0) {
                System.out.println("no run has an answer of " + each.getKey());
                System.exit(1);
            }
        }
        System.out.println(runs + " runs agree, " + counts.get(Call.Kind.LAUNCH)[0] + " of them with a launch");
    }

    private boolean runs() {
        boolean isTame = random.nextInt(3) > 0;
        if (isTame) {
            begin();
        }
        int finish = random.nextInt(2) == 0 ? random.nextInt(LATEST_FINISH) : DEEDS;
        for (int call = 0; yard.deeds().size() < DEEDS && !isWrong; call++) {
            Call.Kind kind = Call.Kind.values()[random.nextInt(random.nextInt(4) == 0 ? 31 : 15)];
            compare(kind, random.nextInt(8) == 0 ? anyArguments(kind) : arguments(kind));
            if (call == finish) {
                finish();
            }
            if (call % 20 == 0) {
                compareAll();
            }
        }
        return !isWrong;
    }

    /** A hall, a crane and welders with which much can be done. */
    private void begin() {
        compare(Call.Kind.HALL, new int[] {12, 1000});
        compare(Call.Kind.CRANE, new int[] {random.nextInt(12), 300});
        for (int welder = 0; welder < 3; welder++) {
            compare(Call.Kind.WELDER, new int[] {welder, 30 * welder});
        }
    }

    /** Fills what is open, tests and repairs, and launches, as far as that goes. */
    private void finish() {
        compare(Call.Kind.CRANE, new int[] {below(12), 300});
        for (int cell = 0; cell < 36; cell++) {
            if (oracle.answer(Call.Kind.CELL, new int[] {cell, 0}) < 0) {
                compare(Call.Kind.BLOCK, new int[] {cell % 12, cell % 12, cell / 12, 1 + below(12), below(8), 1 + below(8)});
                compare(Call.Kind.ERECT, new int[] {oracle.blocks.size() - 1, below(3)});
            }
        }
        for (int weld = 0; weld < oracle.welds.size(); weld++) {
            compare(Call.Kind.TEST, new int[] {weld});
            if (oracle.welds.get(weld).state == 2) {
                compare(Call.Kind.REPAIR, new int[] {weld, 0});
                compare(Call.Kind.TEST, new int[] {weld});
            }
        }
        compareAll();
        compare(Call.Kind.LAUNCH, new int[] {below(13)});
    }

    private void compare(Call.Kind kind, int[] a) {
        Call call = new Call(kind, a);
        String got = yard.make(call);
        String due = answerOfOracle(kind, a);
        counts.get(kind)[due.startsWith("throws") ? 1 : 0]++;
        if (kind.isDeed()) {
            run.add(call + " " + due);
        }
        if (!got.equals(due)) {
            run.add(call + " answered " + got + ", due is " + due);
            isWrong = true;
        }
    }

    private String answerOfOracle(Call.Kind kind, int[] a) {
        try {
            return String.valueOf(oracle.answer(kind, a));
        } catch (RuntimeException thrown) {
            return Call.textOf(thrown);
        }
    }

    private void compareAll() {
        for (int block = 0; block < oracle.blocks.size(); block++) {
            compare(Call.Kind.WHY_NOT, new int[] {block});
            compareFacts(Call.Kind.TOLD, block, 7);
        }
        for (int weld = 0; weld < oracle.welds.size(); weld++) {
            compareFacts(Call.Kind.WELD, weld, 3);
        }
        for (int cell = 0; cell < 36; cell++) {
            compareFacts(Call.Kind.CELL, cell, 4);
        }
        for (int pipe = 0; pipe < oracle.pipes.size(); pipe++) {
            compareFacts(Call.Kind.ROOM_AT, pipe, 36);
        }
        for (Call.Kind kind : Call.Kind.values()) {
            if (kind.arguments == 0) {
                compare(kind, new int[0]);
            }
        }
        compare(Call.Kind.DRAUGHT, new int[] {0});
        compare(Call.Kind.DRAUGHT, new int[] {1});
    }

    private void compareFacts(Call.Kind kind, int number, int most) {
        for (int what = 0; what <= most; what++) {
            compare(kind, new int[] {number, what});
        }
    }

    private int below(int bound) {
        return random.nextInt(bound);
    }

    /** A number from one below the first to one above the last. */
    private int near(int first, int last) {
        return first - 1 + below(last - first + 3);
    }

    private int[] anyArguments(Call.Kind kind) {
        int[] bounds = {0, 1, 2, 3, 6, 8, 11, 12, 35, 36, 60, 100, 200, 300, 1000};
        int[] a = new int[kind.arguments];
        for (int i = 0; i < a.length; i++) {
            int bound = bounds[below(bounds.length)];
            a[i] = below(20) == 0 ? random.nextInt() : near(bound, bound);
        }
        return a;
    }

    private int[] arguments(Call.Kind kind) {
        switch (kind) {
            case HALL: return new int[] {below(3) == 0 ? near(1, 12) : 12, below(3) == 0 ? near(1, 1000) : 1000};
            case CRANE: return new int[] {near(0, 11), below(4) == 0 ? near(1, 1000) : 200 + below(300)};
            case WELDER: return new int[] {near(0, 3), below(4) == 0 ? near(0, 100) : below(2) * below(100)};
            case DRAW: return new int[] {random.nextInt()};
            case BLOCK: return blockArguments();
            case JOIN: return joinArguments();
            case ERECT: return new int[] {erectable(), below(12) == 0 ? near(0, 3) : below(4)};
            case SCRAP: return new int[] {below(10) > 0 ? -1 : near(0, Math.max(0, oracle.blocks.size() - 1))};
            case TEST: return new int[] {weldIn(0)};
            case REPAIR: return new int[] {weldIn(2), below(12) == 0 ? near(0, 3) : below(4)};
            case HOLE: return new int[] {near(0, 35), below(2)};
            case PAINT: return new int[] {near(0, 35)};
            case FIT: return new int[] {paintedRoom(), below(4) == 0 ? near(1, 100) : 1 + below(20)};
            case PIPE: return new int[] {near(0, 35), near(0, 35)};
            case LAUNCH: return new int[] {below(4) == 0 ? near(0, 1000) : below(13)};
            case WHY_NOT: return new int[] {near(0, oracle.blocks.size())};
            case TOLD: return new int[] {near(0, oracle.blocks.size()), near(0, 7)};
            case WELD: return new int[] {near(0, oracle.welds.size()), near(0, 3)};
            case CELL: return new int[] {near(0, 35), near(0, 4)};
            case ROOM_AT: return new int[] {near(0, oracle.pipes.size()), near(0, 4)};
            case DRAUGHT: return new int[] {below(2)};
            case WATER: return new int[] {near(0, 1000)};
            default: return new int[0];
        }
    }

    /** Mostly a light block at the first cells that are not filled, so that the ship is built. */
    private int[] blockArguments() {
        int cell = below(4) > 0 ? firstEmpty() : below(36);
        int first = cell % 12;
        int last = first;
        boolean isLong = below(3) == 0;
        while (last < 11 && below(4) > 0 && (isLong || oracle.answer(Call.Kind.CELL, new int[] {cell - first + last + 1, 0}) < 0)) {
            last++;
        }
        int more = below(3) > 0 ? below(12) : below(61);
        int tons = below(4) > 0 ? 1 + below(20) : 1 + below(200);
        if (below(20) == 0) {
            return new int[] {near(0, 11), near(0, 11), near(0, 2), near(1, 200), near(0, 60), near(1, 8)};
        }
        return new int[] {first, last, cell / 12, tons, more, 1 + below(8)};
    }

    private int firstEmpty() {
        int skip = below(3) == 0 ? below(6) : 0;
        for (int cell = 0; cell < 36; cell++) {
            if (oracle.answer(Call.Kind.CELL, new int[] {cell, 0}) < 0 && skip-- <= 0) {
                return cell;
            }
        }
        return below(36);
    }

    private int[] joinArguments() {
        for (int tries = 0; tries < 60 && oracle.blocks.size() > 1; tries++) {
            Oracle.Block one = oracle.blocks.get(below(oracle.blocks.size()));
            Oracle.Block two = oracle.blocks.get(below(oracle.blocks.size()));
            if (one.kind == 0 && two.kind == 0 && one.level == two.level && one.last + 1 == two.first) {
                return new int[] {one.number, two.number, below(12) == 0 ? near(0, 3) : below(4)};
            }
        }
        return new int[] {near(0, oracle.blocks.size()), near(0, oracle.blocks.size()), below(4)};
    }

    private int erectable() {
        for (int tries = 0; tries < 60 && !oracle.blocks.isEmpty(); tries++) {
            int block = below(oracle.blocks.size());
            if (oracle.answer(Call.Kind.WHY_NOT, new int[] {block}) == 0) {
                return block;
            }
        }
        return near(0, oracle.blocks.size());
    }

    private int weldIn(int state) {
        for (int tries = 0; tries < 30 && !oracle.welds.isEmpty(); tries++) {
            int weld = below(oracle.welds.size());
            if (oracle.welds.get(weld).state == state) {
                return weld;
            }
        }
        return near(0, oracle.welds.size());
    }

    private int paintedRoom() {
        List<Integer> rooms = new ArrayList<>(oracle.painted);
        return rooms.isEmpty() || below(6) == 0 ? near(0, 35) : rooms.get(below(rooms.size()));
    }
}
