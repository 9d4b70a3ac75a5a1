import java.util.ArrayList;
import java.util.Arrays;
import java.util.List;
import java.util.Map;
import java.util.Random;
import java.util.TreeMap;

/**
 * Runs of 512 calls, drawn with fixed seeds, each answered as PlainYard answers it. Beyond these an object's answers are
 * free; but no call may throw, so that some runs go on.
 */
public final class RandomRunsTest {
    private static final int RUNS = 1200;
    private static final int CALLS = 512;
    private static final int LOOKS = 3;
    private static final int CALLS_OF_A_STEP = 1 + LOOKS;
    private static final int MORE_CALLS = 3000;

    /** Each call with what its parameters are: see number(). */
    private static final String[] CALLS_TOLD = {
        "hive bees", "box h", "frame p size", "thing kind", "out p", "back bench p", "at p", "where n", "field p i",
        "put p i value", "bring h honey", "harvest p", "ledger entry what", "honey what", "move p p moves", "moved",
        "stack h h", "join h h", "split h box h", "line t parent parent", "kin t t", "ask t what", "slot h parent",
        "lay t rate", "mate t t", "day days", "swarm h swarm", "settle t h", "share h share", "shared i",
        "sample h mites mites", "mites h what", "compare h h", "treat h", "due h days growth", "plan limit mites",
        "chosen bench", "inspect h what", "gap h", "find value p", "export p", "letter i", "copy i i i", "trace body",
        "undo", "digest", "status"
    };
    private static final int BUILDING = 4;
    private static final int[] NO_NUMBERS = {};

    private final Random random;
    private final int width;
    private final int wildness;
    private final boolean looksOften;
    private final List<String> drawn = new ArrayList<>();
    private final BeeYard yard = new BeeYard();
    private final PlainYard plain = new PlainYard();
    private final List<String> told = new ArrayList<>();
    private int calls = 0;

    /** Each run has its own bent: some calls come often in it, some never. */
    private RandomRunsTest(long seed) {
        random = new Random(seed);
        width = 1 + random.nextInt(random.nextInt(3) > 0 ? 4 : 40);
        wildness = random.nextInt(3) == 0 ? 8 : 80;
        looksOften = seed % 3 == 0;
        int[] weights = {0, 1, 1, 2, 8};
        for (int i = 0; i < CALLS_TOLD.length; i++) {
            int weight = weights[random.nextInt(weights.length)] + (i < BUILDING ? 3 : 0);
            for (int k = 0; k < weight; k++) {
                drawn.add(CALLS_TOLD[i]);
            }
        }
    }

    /** Arguments: how many runs; any second one shows how often each call had each STATUS. */
    public static void main(String[] args) {
        int runs = args.length > 0 ? Integer.parseInt(args[0]) : RUNS;
        Map<String, int[]> tally = new TreeMap<>();
        for (int seed = 0; seed < runs; seed++) {
            RandomRunsTest run = new RandomRunsTest(seed);
            boolean fine = (seed % 10 != 0 || run.fills(seed / 10 % 4)) && run.passes(tally) && (seed % 20 != 0 || run.goesOn());
            if (!fine) {
                System.out.println("seed " + seed + ":");
                run.told.forEach(System.out::println);
                System.exit(1);
            }
        }
        boolean all = true;
        for (String told : CALLS_TOLD) {
            String call = told.split(" ")[0];
            int[] counts = tally.getOrDefault(call, new int[9]);
            all &= counts[0] > 0;
            if (args.length > 1) {
                System.out.println(call + " " + Arrays.toString(counts));
            }
        }
        System.out.println(all ? "RandomRunsTest: all answers are as due" : "RandomRunsTest: a call was never answered");
        System.exit(all ? 0 : 1);
    }

    private boolean passes(Map<String, int[]> tally) {
        for (int k = 0; calls + CALLS_OF_A_STEP + LOOKS <= CALLS; k++) {
            String[] words = draw(k).split(" ");
            if (!step(words[0], numbers(words))) {
                return false;
            }
            tally.computeIfAbsent(words[0], x -> new int[9])[plain.call("status", NO_NUMBERS)]++;
        }
        return isLike();
    }

    private int[] numbers(String[] words) {
        int[] numbers = new int[words.length - 1];
        for (int i = 0; i < numbers.length; i++) {
            numbers[i] = random.nextInt(wildness) == 0 ? wild() : number(words[i + 1]);
        }
        return numbers;
    }

    /** Looking after each call leaves fewer calls to the run: so that most runs look at their end alone. */
    private boolean step(String call, int... numbers) {
        int due = plain.call(call, numbers);
        int got = answer(call, numbers);
        told.add(call + Arrays.toString(numbers) + " answered " + got + ", due is " + due + " with STATUS "
            + plain.call("status", NO_NUMBERS));
        return got == due && (!looksOften || isLike());
    }

    /** Rows up to their ends: HIVES and their BOXES, FRAMES and the BENCH, THINGS and their lines, the LEDGER. */
    private boolean fills(int what) {
        boolean like = true;
        for (int i = 0; like && calls + CALLS_OF_A_STEP <= CALLS * 7 / 8; i++) {
            switch (what) {
                case 0:
                    like = i % 9 == 0 ? step("hive", i * 60) : step("box", i / 9);
                    break;
                case 1:
                    like = i < 27 ? i % 9 == 0 ? step("hive", i * 60) : step("box", i / 9)
                        : i < 230 ? step("frame", 287 - (i - 27), 64 - i % 3) : step("out", 287 - (i - 230));
                    break;
                case 2:
                    like = i % 2 == 0 ? step("thing", i / 2 % 4) : step("line", i / 2, (i / 2 - 1) / 16 * 4, -1);
                    break;
                default:
                    like = i == 0 ? step("hive", 9000) : i == 1 ? step("box", 0) : i == 2 ? step("frame", 3, 64)
                        : i % 2 == 0 ? step("bring", 0, i) : step("harvest", 3);
                    break;
            }
        }
        return like;
    }

    /** Into a yard as full as it can be, and on from there: nothing is held but that no call throws. */
    private boolean goesOn() {
        try {
            for (int i = 0; i < 40 * 8; i++) {
                callBoth("hive", i * 60);
                callBoth("box", i / 8);
            }
            for (int i = 0; i < 200; i++) {
                callBoth("frame", 3839 - i * 19, 64 - i % 3);
                callBoth("thing", i % 4);
                callBoth("harvest", 3839 - i * 19);
                callBoth("line", i, (i - 1) / 16 * 4, -1);
            }
            for (int i = 0; i < MORE_CALLS; i++) {
                String[] words = drawn.get(random.nextInt(drawn.size())).split(" ");
                callBoth(words[0], numbers(words));
            }
            return true;
        } catch (IllegalStateException e) {
            told.add(e + ", " + e.getCause());
            return false;
        }
    }

    /** PlainYard goes along, since the numbers are drawn by what it has. */
    private void callBoth(String call, int... numbers) {
        plain.call(call, numbers);
        answer(call, numbers);
    }

    private boolean isLike() {
        for (String look : new String[] {"status", "moved", "digest"}) {
            int due = plain.call(look, NO_NUMBERS);
            int got = answer(look, NO_NUMBERS);
            if (got != due) {
                told.add(look + " answered " + got + ", due is " + due);
                return false;
            }
        }
        return true;
    }

    private int answer(String call, int... numbers) {
        calls++;
        return Calls.make(yard, call, numbers);
    }

    /** A run begins with some building, so that later calls find something. */
    private String draw(int k) {
        if (k < 2 * width) {
            return CALLS_TOLD[k % 2];
        }
        return k < 2 * width + 12 ? CALLS_TOLD[random.nextInt(BUILDING)] : drawn.get(random.nextInt(drawn.size()));
    }

    private int wild() {
        int[] all = {Integer.MIN_VALUE, Integer.MAX_VALUE, -2, -1, 0, 1, 7, 8, 9, 11, 12, 13, 23, 24, 30, 31, 39, 40, 41, 63, 64,
            65, 95, 96, 97, 99, 100, 101, 199, 200, 201, 300, 400, 999, 1000, 1001, 3839, 3840, 9999, 10000, 10001, 20000, 20001};
        return all[random.nextInt(all.length)];
    }

    private int below(int count) {
        return random.nextInt(Math.max(1, count));
    }

    private int oneOf(int few, int many) {
        return random.nextInt(random.nextBoolean() ? few : many);
    }

    private int number(String what) {
        switch (what) {
            case "bees": return oneOf(500, 20001);
            case "h": return below(Math.min(width, plain.hives()));
            case "p": return place();
            case "size": return random.nextInt(4) == 0 ? 64 : oneOf(8, 65);
            case "bench": return oneOf(2, 6);
            case "n": return below(plain.frames() + 1);
            case "entry": return below(plain.entries() + 1);
            case "i": return oneOf(6, 64);
            case "value": return new int[] {0, 200, 300, 400, 100, 302, 309, 410}[oneOf(4, 8)];
            case "honey": return oneOf(300, 10001);
            case "what": return oneOf(4, 15);
            case "moves": return oneOf(3, 13);
            case "box": return random.nextInt(4);
            case "kind": return random.nextInt(4);
            case "swarm": return 4 + random.nextInt(2);
            case "t": return below(plain.things());
            case "parent": return random.nextInt(4) == 0 ? -1 : below(plain.things());
            case "rate": return oneOf(20, 201);
            case "days": return oneOf(4, 31);
            case "share": return random.nextInt(101);
            case "limit": return oneOf(3, 100);
            case "mites": return oneOf(12, 10001);
            case "growth": return oneOf(5, 1001);
            case "body": return random.nextInt(17);
            default: throw new IllegalStateException(what);
        }
    }

    /** Most often one with a FRAME, or the one next to it. */
    private int place() {
        if (plain.frames() > 0 && random.nextInt(4) > 0) {
            return Math.max(0, plain.placeOrBench(below(plain.frames())) + random.nextInt(5) / 4);
        }
        return random.nextInt(width) * 96 + oneOf(12, 36);
    }
}
