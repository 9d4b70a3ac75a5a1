import java.lang.reflect.InvocationTargetException;
import java.lang.reflect.Method;
import java.util.ArrayList;
import java.util.Arrays;
import java.util.List;
import java.util.Map;
import java.util.Random;
import java.util.TreeMap;

/** Runs of up to 512 calls, drawn with fixed seeds, each answered as PlainYard answers it. */
public final class RandomRunsTest {
    private static final int RUNS = 600;
    private static final int CALLS = 512;

    /** Each call with what its parameters are: see number(). */
    private static final String[] CALLS_TOLD = {
        "hive bees", "box h", "frame p size", "thing kind", "out p", "back bench p", "at p", "where n", "field p i",
        "put p i value", "bring h honey", "harvest p", "ledger entry what", "honey what", "move p p moves", "moved",
        "stack h h", "join h h", "split h box h", "line t parent parent", "kin t t", "ask t what", "slot h parent",
        "lay t rate", "mate t t", "day days", "swarm h swarm", "settle t h", "share h share", "shared i",
        "sample h mites mites", "mites h what", "compare h h", "treat h", "due h days growth", "plan limit mites",
        "chosen bench", "inspect h what", "gap h", "find value p", "export p", "letter i", "copy i i i", "trace body",
        "undo", "digest", "status"
    };
    private static final int BUILDING = 4;

    private final Random random;
    private final int width;
    private final int wildness;
    private final List<String> drawn = new ArrayList<>();
    private final BeeYard yard = new BeeYard();
    private final PlainYard plain = new PlainYard();
    private final List<String> told = new ArrayList<>();

    /** Each run has its own bent: some calls come often in it, some never. */
    private RandomRunsTest(long seed) {
        random = new Random(seed);
        width = 1 + random.nextInt(random.nextInt(3) > 0 ? 4 : 40);
        wildness = random.nextInt(3) == 0 ? 8 : 80;
        int[] weights = {0, 1, 1, 2, 8};
        for (int i = 0; i < CALLS_TOLD.length; i++) {
            int weight = weights[random.nextInt(weights.length)] + (i < BUILDING ? 3 : 0);
            for (int k = 0; k < weight; k++) {
                drawn.add(CALLS_TOLD[i]);
            }
        }
    }

    /** Arguments: how many runs; any second one shows how often each call had each STATUS. */
    public static void main(String[] args) throws IllegalAccessException {
        int runs = args.length > 0 ? Integer.parseInt(args[0]) : RUNS;
        Map<String, Method> methods = methods();
        Map<String, int[]> tally = new TreeMap<>();
        for (int seed = 0; seed < runs; seed++) {
            RandomRunsTest run = new RandomRunsTest(seed);
            boolean full = seed % 100 == 0;
            if (full && !run.fills(methods) || !run.passes(methods, tally)) {
                System.out.println("seed " + seed + ":");
                run.told.forEach(System.out::println);
                System.exit(1);
            }
        }
        boolean all = true;
        for (String call : methods.keySet()) {
            int[] counts = tally.getOrDefault(call, new int[9]);
            all &= counts[0] > 0;
            if (args.length > 1) {
                System.out.println(call + " " + Arrays.toString(counts));
            }
        }
        System.out.println(all ? "RandomRunsTest: all answers are as due" : "RandomRunsTest: a call was never answered");
        System.exit(all ? 0 : 1);
    }

    private static Map<String, Method> methods() {
        Map<String, Method> all = new TreeMap<>();
        for (Method method : BeeYard.class.getMethods()) {
            if (method.getDeclaringClass() == BeeYard.class) {
                all.put(method.getName(), method);
            }
        }
        return all;
    }

    private boolean passes(Map<String, Method> methods, Map<String, int[]> tally) throws IllegalAccessException {
        for (int k = 0; k < CALLS; k++) {
            String[] words = draw(k).split(" ");
            int[] numbers = new int[words.length - 1];
            for (int i = 0; i < numbers.length; i++) {
                numbers[i] = random.nextInt(wildness) == 0 ? wild() : number(words[i + 1]);
            }
            if (!step(methods, words[0], numbers)) {
                return false;
            }
            tally.computeIfAbsent(words[0], x -> new int[9])[yard.status()]++;
        }
        return true;
    }

    private boolean step(Map<String, Method> methods, String call, int... numbers) throws IllegalAccessException {
        int due = plain.call(call, numbers);
        int got = answer(methods.get(call), numbers);
        told.add(call + Arrays.toString(numbers) + " answered " + got + " with STATUS " + yard.status() + ", due is " + due
            + " with " + plain.call("status", numbers));
        return got == due && isLike();
    }

    /** All that a yard can hold; more calls than are promised for, but none may throw, and no row may be overrun. */
    private boolean fills(Map<String, Method> methods) throws IllegalAccessException {
        boolean like = true;
        for (int i = 0; i < 40 * 8 && like; i++) {
            like = (i % 8 > 0 || step(methods, "hive", i * 60)) && step(methods, "box", i / 8);
        }
        for (int i = 0; i < 200 && like; i++) {
            like = step(methods, "frame", 3839 - i * 19, 64 - i % 3) && step(methods, "thing", i % 4)
                && step(methods, "harvest", 3839 - i * 19) && (i < 2 || step(methods, "line", i, (i - 1) / 16 * 4, -1));
        }
        for (int i = 0; i < 40 && like; i++) {
            like = step(methods, "slot", i, i) && step(methods, "bring", i, 9000)
                && (i >= 24 || step(methods, "out", 3839 - i * 19));
        }
        return like;
    }

    private boolean isLike() {
        int[] none = {};
        return yard.status() == plain.call("status", none) && yard.moved() == plain.call("moved", none)
            && yard.digest() == plain.call("digest", none);
    }

    private int answer(Method method, int[] numbers) throws IllegalAccessException {
        Object[] boxed = Arrays.stream(numbers).boxed().toArray();
        try {
            return (Integer) method.invoke(yard, boxed);
        } catch (InvocationTargetException e) {
            e.getCause().printStackTrace();
            return Integer.MIN_VALUE;
        }
    }

    /** A run begins with some building, so that later calls find something. */
    private String draw(int k) {
        if (k < 2 * width) {
            return CALLS_TOLD[k % 2];
        }
        return k < 2 * width + 12 ? CALLS_TOLD[random.nextInt(BUILDING)] : drawn.get(random.nextInt(drawn.size()));
    }

    private int wild() {
        int[] all = {Integer.MIN_VALUE, Integer.MAX_VALUE, -2, -1, 0, 1, 7, 8, 9, 11, 12, 13, 23, 24, 30, 31, 39, 40, 41, 63, 64,
            65, 95, 96, 97, 99, 100, 101, 199, 200, 201, 300, 400, 999, 1000, 1001, 3839, 3840, 9999, 10000, 10001, 20000, 20001};
        return all[random.nextInt(all.length)];
    }

    private int below(int count) {
        return random.nextInt(Math.max(1, count));
    }

    private int oneOf(int few, int many) {
        return random.nextInt(random.nextBoolean() ? few : many);
    }

    private int number(String what) {
        switch (what) {
            case "bees": return oneOf(500, 20001);
            case "h": return below(Math.min(width, plain.hives()));
            case "p": return place();
            case "size": return random.nextInt(4) == 0 ? 64 : oneOf(8, 65);
            case "bench": return oneOf(2, 6);
            case "n": return below(plain.frames() + 1);
            case "entry": return below(plain.entries() + 1);
            case "i": return oneOf(6, 64);
            case "value": return new int[] {0, 200, 300, 400, 100, 302, 309, 410}[oneOf(4, 8)];
            case "honey": return oneOf(300, 10001);
            case "what": return oneOf(4, 15);
            case "moves": return oneOf(3, 13);
            case "box": return random.nextInt(4);
            case "kind": return random.nextInt(4);
            case "swarm": return 4 + random.nextInt(2);
            case "t": return below(plain.things());
            case "parent": return random.nextInt(4) == 0 ? -1 : below(plain.things());
            case "rate": return oneOf(20, 201);
            case "days": return oneOf(4, 31);
            case "share": return random.nextInt(101);
            case "limit": return oneOf(3, 100);
            case "mites": return oneOf(12, 10001);
            case "growth": return oneOf(5, 1001);
            case "body": return random.nextInt(17);
            default: throw new IllegalStateException(what);
        }
    }

    /** Most often one with a FRAME, or the one next to it. */
    private int place() {
        if (plain.frames() > 0 && random.nextInt(4) > 0) {
            return Math.max(0, plain.placeOrBench(below(plain.frames())) + random.nextInt(5) / 4);
        }
        return random.nextInt(width) * 96 + oneOf(12, 36);
    }
}
