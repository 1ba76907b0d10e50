import java.util.ArrayList;
import java.util.Arrays;
import java.util.List;
import java.util.Set;

/**
 * Each call with every mix of the edges of its numbers, and with each number swept alone, from an empty, a mixed and a
 * full object: the answer is the model's, so the first refusal that fits; and a call that is refused, or that only asks,
 * leaves all that can be seen as it was, but for the latest finding.
 */
public final class EdgesTogetherTest {
    private static final int LOW = Integer.MIN_VALUE, HIGH = Integer.MAX_VALUE;
    private static final int[] ROW = {LOW, -1, 0, 1, 2, 4, 7, 8, HIGH};
    private static final int[] FEW_ROWS = {-1, 0, 1, 2, 4, 7, 8};
    private static final int[] BITS = {LOW, 0, 1, 2, 3, 7, 8, 34, HIGH};
    private static final int[] TAPS = {LOW, LOW + 1, -1, 0, 1, 2, 3, 4, 5, 7, 8, 9, 127, 128, 129, HIGH};
    private static final int[] START = {LOW, -1, 0, 1, 2, 3, 4, 7, 8, 127, 128, HIGH};
    private static final int[] SHIFT = {LOW, -1, 0, 1, 6, 7, 126, 127, HIGH};
    private static final int[] PLACE = {LOW, -1, 0, 5, 299, 300, 301, HIGH};
    private static final int[] SIGNS = {LOW, -1, 0, 1, 2, 3, 7, 12, 13, 127, 128, HIGH};
    private static final int[] REEL = {-1, 0, 1, 2, 3, 4};
    private static final int[] FORM = {LOW, -1, 0, 1, 2, 3, HIGH};
    private static final int[] ITEM = {LOW, -1, 0, 4, 5, 11, 12, 299, 300, HIGH};
    private static final int[] SPAN = {LOW, -1, 0, 1, 5, 6, 12, 300, 301, HIGH};
    private static final int[] PRIME = {LOW, -1, 0, 1, 2, 3, 4, 9, 29, 31, 37, HIGH};
    private static final int[] HOP = {LOW, -1, 0, 1, 2, 3, 28, 30, 31, HIGH};
    private static final Set<String> CHANGING = Set.of("make", "join", "load", "drop", "doubt", "peel", "length", "reset",
        "reel", "lose", "put", "copy", "add");
    private static final int[] SWEPT = swept();

    /** A call, numbers that it takes in the mixed object, and the edges of each. */
    private record Call(String name, int[] taken, int[]... edges) { }

    /** A call that leads to the state that is begun with. */
    private record Told(String name, int[] a) { }

    private static final Call[] FACE = {
        new Call("make", of(0, 3, 3, 1), ROW, BITS, TAPS, START),
        new Call("period", of(3, 3, 1), BITS, TAPS, START),
        new Call("full", of(3), BITS),
        new Call("join", of(0, 1, 2, 3), FEW_ROWS, FEW_ROWS, SHIFT, FEW_ROWS),
        new Call("load", of(0, 0, 2), ROW, REEL, SIGNS),
        new Call("drop", of(0), ROW),
        new Call("sign", of(0, 0), ROW, SHIFT),
        new Call("like", of(0, 1, 0), ROW, ROW, SHIFT),
        new Call("most", of(0, 1), ROW, ROW),
        new Call("heard", of(0, 0, 0, 0, 0), FEW_ROWS, PLACE, SHIFT, of(-1, 0, 1, 3, 4), of(-1, 0, 1, 2)),
        new Call("search", of(0, 0), ROW, PLACE),
        new Call("sure", of(0, 0), ROW, PLACE),
        new Call("power", of(0, 0), ROW, PLACE),
        new Call("doubt", of(5), of(LOW, -1, 0, 1, 99, 100, 101, HIGH)),
        new Call("peel", of(0, 7), PLACE, SIGNS),
        new Call("peeled", of(0, 0), of(LOW, -1, 0, 1, 2, 3, 18, 19, 20, HIGH), of(LOW, -1, 0, 1, 2, 3, HIGH)),
        new Call("noise", of()),
        new Call("follow", of(0, 0, 0, 1), FEW_ROWS, PLACE, SHIFT, of(LOW, -1, 0, 1, 2, 20, 21, HIGH)),
        new Call("length", of(7, 3), of(LOW, -1, 0, 1, 2, 5, 6, 7, 9, 14, 126, 127, 128, HIGH),
            of(LOW, -1, 0, 1, 2, 6, 7, 8, 125, 126, 127, HIGH)),
        new Call("reset", of()),
        new Call("range", of()),
        new Call("mend", of(20), of(LOW, -1, 0, 1, 2, 13, 14, 19999, 20000, 20001, HIGH)),
        new Call("hits", of(7, 1, 2, 3, 4), PRIME, HOP, HOP, of(-1, 0, 1, 2, 28, 30, 31), of(-1, 0, 1, 2, 28, 30, 31)),
        new Call("worst", of(7, 1, 2), PRIME, HOP, HOP),
        new Call("reel", of(0, 0, 5), of(LOW, -1, 0, 1, 2, 3, 4, HIGH), FORM, SPAN),
        new Call("lose", of(0), of(LOW, -1, 0, 1, 2, 3, 4, HIGH)),
        new Call("put", of(0, 1, 0, 5), REEL, FORM, ITEM, of(LOW, -32769, -1, 0, 128, HIGH)),
        new Call("get", of(0, 1, 0), of(LOW, -1, 0, 1, 2, 3, 4, HIGH), FORM, ITEM),
        new Call("copy", of(0, 1, 3, 1, 1), REEL, ITEM, REEL, ITEM, SPAN),
        new Call("add", of(0, 0, 1, 1, 5), FEW_ROWS, REEL, of(LOW, -1, 0, 5, 12, 13, 300, 301, HIGH),
            of(-1, 0, 1, 126, 127), of(LOW, -1001, -1000, 7, 1000, 1001, HIGH)),
        new Call("count", of(0), of(LOW, -1, 0, 1, 2, 3, 4, 5, HIGH)),
        new Call("digest", of()),
    };

    private static final String MIXED = """
        make 0 3 3 1
        make 1 3 5 2
        make 4 2 3 1
        reel 3 1 3
        put 3 1 0 -7
        put 3 1 2 9
        load 7 3 1
        reel 0 1 12
        add 0 0 0 2 50
        add 1 0 3 4 -20
        put 0 1 11 10001
        reel 1 2 5
        add 4 1 0 1 300
        put 1 2 4 -2147483648
        doubt 40
        length 9 4
        length 10 3
        peel 0 7
        copy 0 0 1 0 1
        """;
    private static final String FULL = """
        make 0 2 1 1
        make 1 2 3 1
        make 2 3 3 1
        make 3 3 5 1
        make 4 4 3 1
        make 5 2 1 3
        make 6 3 7 7
        make 7 3 1 1
        reel 0 2 300
        reel 1 2 300
        reel 2 2 300
        reel 3 0 300
        add 2 0 0 3 1000
        add 3 0 2 5 -777
        add 4 0 290 5 333
        add 4 1 0 0 999
        add 2 1 293 6 -5
        put 3 0 299 -128
        doubt 100
        length 2 1
        length 9 8
        length 25 24
        length 49 48
        length 121 120
        peel 0 7
        reel 0 0 -1
        """;

    private static int wrong = 0;
    private static int asked = 0;

    public static void main(String[] args) {
        for (String state : new String[] {"", MIXED, FULL}) {
            List<Told> rows = state.lines().map(row -> new Told(row.split(" ")[0], numbers(row))).toList();
            Model model = new Model();
            rows.forEach(row -> model.answer(row.name(), row.a()));
            long[] seen = seen(made(rows));
            for (Call call : FACE) {
                mixes(call, 0, new int[call.edges().length], rows, model, seen);
                sweeps(call, rows, model, seen);
            }
        }
        System.out.println(wrong == 0 ? asked + " calls are as due" : wrong + " calls are not as due");
        if (wrong != 0) {
            System.exit(1);
        }
    }

    private static int[] of(int... numbers) {
        return numbers;
    }

    private static int[] swept() {
        List<Integer> all = new ArrayList<>();
        for (int v = -310; v <= 310; v++) {
            all.add(v);
        }
        // what a narrower number or a shift would take for a small one, and the bounds that lie further out
        for (int power = 9; power < 32; power++) {
            for (int beside = -2; beside <= 2; beside++) {
                all.add((1 << power) + beside);
                all.add(-(1 << power) + beside);
            }
        }
        for (int bound : new int[] {-1000, 1000, 10000, -10000, 20000}) {
            for (int beside = -2; beside <= 2; beside++) {
                all.add(bound + beside);
            }
        }
        return all.stream().mapToInt(Integer::intValue).toArray();
    }

    private static int[] numbers(String row) {
        return Arrays.stream(row.split(" ")).skip(1).mapToInt(Integer::parseInt).toArray();
    }

    private static CodeHunt made(List<Told> rows) {
        CodeHunt hunt = new CodeHunt();
        rows.forEach(row -> Calls.ask(hunt, row.name(), row.a()));
        return hunt;
    }

    private static void mixes(Call call, int at, int[] a, List<Told> rows, Model model, long[] seen) {
        if (at == a.length) {
            check(call.name(), a, rows, model, seen);
            return;
        }
        for (int v : call.edges()[at]) {
            a[at] = v;
            mixes(call, at + 1, a, rows, model, seen);
        }
    }

    private static void sweeps(Call call, List<Told> rows, Model model, long[] seen) {
        for (int at = 0; at < call.taken().length; at++) {
            for (int v : SWEPT) {
                int[] a = call.taken().clone();
                a[at] = v;
                check(call.name(), a, rows, model, seen);
            }
        }
    }

    private static void check(String name, int[] a, List<Told> rows, Model start, long[] seen) {
        asked++;
        Model model = start.copy();
        CodeHunt hunt = made(rows);
        long due = model.answer(name, a);
        long got = Calls.ask(hunt, name, a);
        int finding = hunt.count(3);
        if (got != due || finding != model.finding) {
            tell(name, a, rows, "answered " + got + ", due is " + due + "; the finding is " + finding + ", due is "
                + model.finding);
        } else if (hunt.digest() != model.digest()) {
            tell(name, a, rows, "answered " + got + ", but the digest is not as due");
        } else if ((!CHANGING.contains(name) || got < 0) && !Arrays.equals(seen(hunt), seen)) {
            tell(name, a, rows, "answered " + got + ", but changed something");
        }
    }

    private static void tell(String name, int[] a, List<Told> rows, String what) {
        wrong++;
        if (wrong <= 20) {
            System.out.println("behind " + rows.size() + " calls: " + name + Arrays.toString(a) + " " + what);
        }
    }

    /** All that can be seen but the latest finding; the object is spent by it. */
    private static long[] seen(CodeHunt h) {
        List<Long> all = new ArrayList<>(List.of((long) h.count(0), (long) h.count(1), (long) h.count(2),
            (long) h.count(4), h.digest(), h.noise(), h.range(), (long) h.mend(300)));
        for (int row = 0; row < 8; row++) {
            for (int i = 0; i < 8; i++) {
                all.add((long) h.sign(row, i));
            }
        }
        for (int time = 0; time < 20; time++) {
            for (int what = 0; what < 3; what++) {
                all.add((long) h.peeled(time, what));
            }
        }
        for (int reel = 0; reel < 4; reel++) {
            for (int form = 0; form < 3; form++) {
                for (int i = 0; i < 13; i++) {
                    all.add((long) h.get(reel, form, i));
                    all.add((long) h.count(3));
                }
            }
            all.add((long) h.lose(reel));
        }
        return all.stream().mapToLong(Long::longValue).toArray();
    }
}
