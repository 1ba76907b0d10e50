import java.util.ArrayList;
import java.util.Arrays;
import java.util.List;
import java.util.Random;

/** Runs of calls drawn from fixed seeds, each answer held against a second, slower reading of the document. */
public final class ModelTest {
    private static final int RUNS = 1800, LONG_RUNS = 300;
    private static final int LAST_CALL = 512;
    private static final int LOOKS = 2;
    private static final int[] EXTREMES = {
        Integer.MIN_VALUE, Integer.MIN_VALUE + 1, -1001, -2, -1, 0, 1, 2, 7, 8, 126, 127, 128, 300, 301,
        1000, 1001, 20000, 20001, Integer.MAX_VALUE - 1, Integer.MAX_VALUE};

    /** A call's name, how often it is drawn, and the bounds that its numbers are mostly drawn from. */
    private record Call(String name, int weight, int... bounds) { }

    private static final Call[] FACE = {
        new Call("make", 6, 0, 7, 2, 7, 1, 31, 1, 31),
        new Call("period", 2, 2, 7, 1, 127, 1, 127),
        new Call("full", 1, 1, 8),
        new Call("join", 3, 0, 7, 0, 7, 0, 126, 0, 7),
        new Call("load", 4, 0, 7, 0, 3, 1, 12),
        new Call("drop", 1, 0, 7),
        new Call("sign", 3, 0, 7, 0, 126),
        new Call("like", 3, 0, 7, 0, 7, 0, 126),
        new Call("most", 3, 0, 7, 0, 7),
        new Call("heard", 6, 0, 7, 0, 60, 0, 126, 0, 3, 0, 1),
        new Call("search", 3, 0, 7, 0, 60),
        new Call("sure", 4, 0, 7, 0, 60),
        new Call("power", 3, 0, 7, 0, 60),
        new Call("doubt", 2, 0, 100),
        new Call("peel", 4, 0, 60, 1, 31),
        new Call("peeled", 5, 0, 20, 0, 2),
        new Call("noise", 2),
        new Call("follow", 4, 0, 7, 0, 60, 0, 126, 1, 20),
        new Call("length", 4, 2, 127, 0, 40),
        new Call("reset", 1),
        new Call("range", 2),
        new Call("mend", 1, 1, 20000),
        new Call("hits", 2, 2, 31, 1, 12, 1, 12, 0, 12, 0, 12),
        new Call("worst", 1, 2, 31, 1, 5, 1, 5),
        new Call("reel", 3, 0, 3, 0, 2, 0, 300),
        new Call("lose", 1, 0, 3),
        new Call("put", 12, 0, 3, 0, 2, 0, 60, -12000, 12000),
        new Call("get", 6, 0, 3, 0, 2, 0, 60),
        new Call("copy", 4, 0, 3, 0, 100, 0, 3, 0, 100, 0, 100),
        new Call("add", 8, 0, 7, 0, 3, 0, 100, 0, 126, -1000, 1000),
        new Call("count", 4, 0, 4),
        new Call("digest", 2),
    };
    private static final int ALL_WEIGHTS = Arrays.stream(FACE).mapToInt(Call::weight).sum();

    public static void main(String[] args) {
        for (int run = 0; run < RUNS; run++) {
            runWithLooks(run);
        }
        for (int run = 0; run < LONG_RUNS; run++) {
            runToTheLastCall(RUNS + run);
        }
        System.out.println("all answers are as the model's");
    }

    /** Each call is followed by two that look at the state, so that a fault is told where it comes to be. */
    private static void runWithLooks(int seed) {
        Random random = new Random(seed);
        CodeHunt hunt = new CodeHunt();
        Model model = new Model();
        List<String> told = new ArrayList<>();
        for (int i = 0; i < LAST_CALL / (1 + LOOKS); i++) {
            boolean right = callIsAsDue(random, hunt, model, told);
            boolean sameState = hunt.digest() == model.digest() && hunt.count(3) == model.finding;
            if (!right || !sameState) {
                fail(seed, told, sameState ? "" : "; the state is not as due");
            }
        }
    }

    /** No looks between: none can cover up what a call leaves to the next ones. The last call of all is digest(). */
    private static void runToTheLastCall(int seed) {
        Random random = new Random(seed);
        CodeHunt hunt = new CodeHunt();
        Model model = new Model();
        List<String> told = new ArrayList<>();
        for (int i = 1; i < LAST_CALL; i++) {
            if (!callIsAsDue(random, hunt, model, told)) {
                fail(seed, told, "");
            }
        }
        if (hunt.digest() != model.digest()) {
            fail(seed, told, "; digest() behind it is not as due");
        }
    }

    private static boolean callIsAsDue(Random random, CodeHunt hunt, Model model, List<String> told) {
        Call call = draw(random);
        int[] a = numbers(random, call, model);
        long due = model.answer(call.name(), a);
        long got = Calls.ask(hunt, call.name(), a);
        told.add(call.name() + Arrays.toString(a) + " answered " + got + ", due is " + due);
        return got == due;
    }

    private static void fail(int seed, List<String> told, String more) {
        told.forEach(System.out::println);
        System.out.println("seed " + seed + ", last row" + more);
        System.exit(1);
    }

    private static Call draw(Random random) {
        int left = random.nextInt(ALL_WEIGHTS);
        for (Call call : FACE) {
            left -= call.weight();
            if (left < 0) {
                return call;
            }
        }
        throw new IllegalStateException();
    }

    private static int[] numbers(Random random, Call call, Model model) {
        int[] a = new int[call.bounds().length / 2];
        for (int j = 0; j < a.length; j++) {
            int low = call.bounds()[2 * j];
            int high = call.bounds()[2 * j + 1];
            a[j] = low + random.nextInt(high - low + 1);
        }
        steer(random, call.name(), a, model);
        if (a.length > 0 && random.nextInt(12) == 0) {
            a[random.nextInt(a.length)] = EXTREMES[random.nextInt(EXTREMES.length)];
        }
        return a;
    }

    /** Most numbers drawn blindly would be refused; these are bent towards what is there. */
    private static void steer(Random random, String name, int[] a, Model model) {
        if (random.nextInt(8) == 0) {
            return;
        }
        switch (name) {
            case "make" -> {
                // big registers are slow in the model, so most are small
                a[1] = random.nextInt(12) == 0 ? a[1] : 2 + random.nextInt(4);
                a[2] = 1 + 2 * random.nextInt(1 << (a[1] - 1));
                a[3] = 1 + random.nextInt((1 << a[1]) - 1);
            }
            case "period" -> {
                a[1] = 1 + 2 * random.nextInt(1 << (a[0] - 1));
                a[2] = 1 + random.nextInt((1 << a[0]) - 1);
            }
            case "hits", "worst" -> a[0] = new int[] {2, 3, 5, 7, 11, 13, 17, 19, 23, 29, 31}[random.nextInt(11)];
            case "peel" -> {
                int[] row = model.rows[random.nextInt(8)];
                a[1] = row == null ? a[1] : row.length;
            }
            case "put", "get" -> a[1] = model.items[a[0]] == null ? a[1] : model.forms[a[0]];
            case "copy" -> a[2] = random.nextBoolean() ? a[0] : a[2];
            case "lose", "drop" -> a[0] = random.nextInt(3) == 0 ? a[0] : 7;
            case "add" -> a[1] = random.nextInt(2);
            default -> { }
        }
    }
}
