import java.math.BigInteger;
import java.util.ArrayList;
import java.util.Arrays;
import java.util.List;
import java.util.stream.IntStream;

/** The document read a second time, with lists, texts and big numbers, for plainness alone. */
final class Model {
    final int[][] rows = new int[8][];
    final int[][] items = new int[4][];
    final int[] forms = new int[4];
    private final List<int[]> lengths = new ArrayList<>();
    private List<int[]> times = new ArrayList<>();
    private long noise = 0;
    private int doubt = 50;
    int finding = 0;

    /** Another that stands where this one does; what it is told later is its own. */
    Model copy() {
        Model other = new Model();
        for (int row = 0; row < rows.length; row++) {
            other.rows[row] = rows[row] == null ? null : rows[row].clone();
        }
        for (int reel = 0; reel < items.length; reel++) {
            other.items[reel] = items[reel] == null ? null : items[reel].clone();
            other.forms[reel] = forms[reel];
        }
        other.lengths.addAll(lengths);
        other.times = new ArrayList<>(times);
        other.noise = noise;
        other.doubt = doubt;
        other.finding = finding;
        return other;
    }

    long answer(String name, int... a) {
        return switch (name) {
            case "make", "period", "full", "join", "load", "drop", "sign", "like", "most" -> ofRows(name, a);
            case "heard", "search", "sure", "power", "doubt" -> ofSearches(name, a);
            case "peel", "peeled", "noise", "follow" -> ofPeeling(name, a);
            case "length", "reset", "range", "mend", "hits", "worst" -> ofRanges(name, a);
            default -> ofReels(name, a);
        };
    }

    private static boolean in(int v, int low, int high) {
        return low <= v && v <= high;
    }

    private static int round(int v, int n) {
        return ((v % n) + n) % n;
    }

    private long finding(int number) {
        finding = number;
        return -10 - number;
    }

    private static boolean badRegister(int n, int taps, int start) {
        return !in(n, 2, 7) || !in(taps, 0, (1 << n) - 1) || taps % 2 == 0 || !in(start, 1, (1 << n) - 1);
    }

    /** The register as a row of bits, bit 0 first. */
    private static List<Integer> bits(int n, int v) {
        List<Integer> bits = new ArrayList<>();
        for (int i = 0; i < n; i++) {
            bits.add(v >> i & 1);
        }
        return bits;
    }

    private static int step(List<Integer> register, List<Integer> taps) {
        int parity = 0;
        for (int i = 0; i < taps.size(); i++) {
            parity ^= register.get(i) * taps.get(i);
        }
        register.add(parity);
        return register.remove(0);
    }

    private static int period(int n, int taps, int start) {
        List<Integer> register = bits(n, start);
        int steps = 0;
        do {
            step(register, bits(n, taps));
            steps++;
        } while (!register.equals(bits(n, start)));
        return steps;
    }

    private static int like(int[] a, int[] b, int d) {
        return IntStream.range(0, a.length).map(i -> a[i] * b[(i + d) % b.length]).sum();
    }

    private boolean unpaired(int a, int b) {
        return rows[a] == null || rows[b] == null || rows[a].length != rows[b].length;
    }

    private long ofRows(String name, int[] a) {
        switch (name) {
            case "make": {
                if (!in(a[0], 0, 7) || badRegister(a[1], a[2], a[3])) return -2;
                List<Integer> register = bits(a[1], a[3]);
                rows[a[0]] = new int[(1 << a[1]) - 1];
                for (int i = 0; i < rows[a[0]].length; i++) {
                    rows[a[0]][i] = 1 - 2 * step(register, bits(a[1], a[2]));
                }
                return rows[a[0]].length;
            }
            case "period":
                return badRegister(a[0], a[1], a[2]) ? -2 : period(a[0], a[1], a[2]);
            case "full":
                if (!in(a[0], 2, 7)) return -2;
                return IntStream.range(0, 1 << a[0])
                    .filter(t -> t % 2 == 1 && period(a[0], t, 1) == (1 << a[0]) - 1).count();
            case "join": {
                if (!in(a[0], 0, 7) || !in(a[1], 0, 7) || !in(a[2], 0, 126) || !in(a[3], 0, 7)) return -2;
                if (unpaired(a[0], a[1])) return -3;
                int[] one = rows[a[0]];
                int[] other = rows[a[1]];
                rows[a[3]] = IntStream.range(0, one.length)
                    .map(i -> one[i] * other[(i + a[2]) % other.length]).toArray();
                return one.length;
            }
            case "load":
                if (!in(a[0], 0, 7) || !in(a[1], 0, 3) || !in(a[2], 1, 127)) return -2;
                if (items[a[1]] == null) return finding(1);
                if (items[a[1]].length < a[2]) return finding(2);
                rows[a[0]] = Arrays.stream(items[a[1]]).limit(a[2]).map(v -> v < 0 ? -1 : 1).toArray();
                return a[2];
            case "drop": {
                if (!in(a[0], 0, 7)) return -2;
                if (rows[a[0]] == null) return -3;
                int had = rows[a[0]].length;
                rows[a[0]] = null;
                return had;
            }
            case "sign":
                if (!in(a[0], 0, 7) || !in(a[1], 0, 126)) return -2;
                return rows[a[0]] == null ? -3 : rows[a[0]][a[1] % rows[a[0]].length];
            case "like":
                if (!in(a[0], 0, 7) || !in(a[1], 0, 7) || !in(a[2], 0, 126)) return -1002;
                return unpaired(a[0], a[1]) ? -1003 : like(rows[a[0]], rows[a[1]], a[2]);
            default:
                if (!in(a[0], 0, 7) || !in(a[1], 0, 7)) return -2;
                if (unpaired(a[0], a[1])) return -3;
                return IntStream.range(0, rows[a[0]].length).filter(d -> a[0] != a[1] || d != 0)
                    .map(d -> Math.abs(like(rows[a[0]], rows[a[1]], d))).max().orElse(0);
        }
    }

    private int part(int reel, int k) {
        if (items[reel] == null || k >= items[reel].length) return 0;
        return in(items[reel][k], -10000, 10000) ? items[reel][k] : 0;
    }

    private long[] heard(int[] row, int k, int d, int tone) {
        long[] sums = {0, 0};
        for (int i = 0; i < row.length; i++) {
            int x = part(0, k + i);
            int y = part(1, k + i);
            for (int quarter = 0; quarter < tone * i % 4; quarter++) {
                int was = x;
                x = y;
                y = -was;
            }
            sums[0] += row[(i + d) % row.length] * x;
            sums[1] += row[(i + d) % row.length] * y;
        }
        return sums;
    }

    private long ofSearches(String name, int[] a) {
        if (name.equals("doubt")) {
            if (!in(a[0], 0, 100)) return -2;
            int was = doubt;
            doubt = a[0];
            return was;
        }
        if (name.equals("heard")) {
            boolean bad = !in(a[0], 0, 7) || !in(a[1], 0, 300) || !in(a[2], 0, 126)
                || !in(a[3], 0, 3) || !in(a[4], 0, 1);
            return bad || rows[a[0]] == null ? Integer.MIN_VALUE : heard(rows[a[0]], a[1], a[2], a[3])[a[4]];
        }
        long base = name.equals("power") ? Long.MIN_VALUE : 0;
        long sense = name.equals("power") ? 1 : -1;
        if (!in(a[0], 0, 7) || !in(a[1], 0, 300)) return base + 2 * sense;
        if (rows[a[0]] == null) return base + 3 * sense;
        List<long[]> all = new ArrayList<>();
        for (int tone = 0; tone < 4; tone++) {
            for (int d = 0; d < rows[a[0]].length; d++) {
                long[] sums = heard(rows[a[0]], a[1], d, tone);
                all.add(new long[] {sums[0] * sums[0] + sums[1] * sums[1], tone, d});
            }
        }
        all.sort((one, other) -> Long.compare(other[0], one[0]));
        if (name.equals("search")) return 1000 * all.get(0)[1] + all.get(0)[2];
        if (name.equals("power")) return all.get(0)[0];
        return all.get(0)[0] > 0 && 100 * all.get(1)[0] <= doubt * all.get(0)[0] ? 1 : 0;
    }

    private static int sum(int[] row, int[] x, int d) {
        return IntStream.range(0, row.length).map(i -> row[round(i + d, row.length)] * x[i]).sum();
    }

    private long ofPeeling(String name, int[] a) {
        switch (name) {
            case "peel": {
                if (!in(a[0], 0, 300) || !in(a[1], 1, 127)) return -2;
                int n = a[1];
                if (Arrays.stream(rows).noneMatch(row -> row != null && row.length == n)) return -3;
                int[] x = IntStream.range(0, n).map(i -> part(0, a[0] + i)).toArray();
                times = new ArrayList<>();
                while (times.size() < 20 && takeOff(x, n)) { }
                noise = Arrays.stream(x).mapToLong(v -> (long) v * v).sum();
                return times.size();
            }
            case "peeled":
                return in(a[0], 0, times.size() - 1) && in(a[1], 0, 2) ? times.get(a[0])[a[1]] : -1000000;
            case "noise":
                return noise;
            default: {
                if (!in(a[0], 0, 7) || !in(a[1], 0, 300) || !in(a[2], 0, 126) || !in(a[3], 1, 20)) return -2;
                int[] row = rows[a[0]];
                if (row == null) return -3;
                int d = a[2];
                for (int block = 0; block < a[3]; block++) {
                    int from = a[1] + block * row.length;
                    int[] x = IntStream.range(0, row.length).map(i -> part(0, from + i)).toArray();
                    int best = d;
                    for (int near : new int[] {d - 1, d + 1}) {
                        best = Math.abs(sum(row, x, near)) > Math.abs(sum(row, x, best)) ? near : best;
                    }
                    d = best;
                }
                return round(d, row.length);
            }
        }
    }

    private boolean takeOff(int[] x, int n) {
        int[] best = null;
        for (int row = 0; row < 8; row++) {
            for (int d = 0; d < n && rows[row] != null && rows[row].length == n; d++) {
                int u = sum(rows[row], x, d);
                best = best == null || Math.abs(u) > Math.abs(best[2]) ? new int[] {row, d, u} : best;
            }
        }
        best[2] = (int) Math.floor((double) best[2] / n + 0.5);
        for (int i = 0; i < n; i++) {
            x[i] -= best[2] * rows[best[0]][(i + best[1]) % n];
        }
        return best[2] != 0 && times.add(best);
    }

    private long range() {
        BigInteger product = BigInteger.ONE;
        for (int[] pair : lengths) {
            product = product.multiply(BigInteger.valueOf(pair[0]));
        }
        BigInteger sum = BigInteger.ZERO;
        for (int[] pair : lengths) {
            BigInteger l = BigInteger.valueOf(pair[0]);
            BigInteger others = product.divide(l);
            sum = sum.add(others.multiply(others.modInverse(l)).multiply(BigInteger.valueOf(pair[1])));
        }
        return sum.mod(product).longValueExact();
    }

    private long fits(int number) {
        return lengths.stream().filter(pair -> number % pair[0] == pair[1]).count();
    }

    private static long hits(int p, int a, int b, int s, int t) {
        return IntStream.range(0, p).filter(x -> (a * x - b * (x + s) - t) % p == 0).count();
    }

    private long ofRanges(String name, int[] a) {
        switch (name) {
            case "length": {
                if (!in(a[0], 2, 127) || !in(a[1], 0, a[0] - 1)) return -2;
                BigInteger l = BigInteger.valueOf(a[0]);
                for (int[] pair : lengths) {
                    if (!l.gcd(BigInteger.valueOf(pair[0])).equals(BigInteger.ONE)) return -2;
                }
                if (lengths.size() == 5) return -4;
                lengths.add(a.clone());
                return lengths.size();
            }
            case "reset": {
                int were = lengths.size();
                lengths.clear();
                return were;
            }
            case "range":
                return range();
            case "mend": {
                if (!in(a[0], 1, 20000)) return -2;
                long most = IntStream.range(0, a[0]).mapToLong(this::fits).max().getAsLong();
                return 10L * IntStream.range(0, a[0]).filter(v -> fits(v) == most).findFirst().getAsInt() + most;
            }
            default: {
                int p = a[0];
                if (!in(p, 2, 31) || !BigInteger.valueOf(p).isProbablePrime(50)) return -2;
                if (!in(a[1], 1, p - 1) || !in(a[2], 1, p - 1)) return -2;
                if (name.equals("hits")) {
                    boolean bad = !in(a[3], 0, p - 1) || !in(a[4], 0, p - 1);
                    return bad ? -2 : hits(p, a[1], a[2], a[3], a[4]);
                }
                return IntStream.range(0, p * p).filter(st -> a[1] != a[2] || st != 0)
                    .mapToLong(st -> hits(p, a[1], a[2], st / p, st % p)).max().getAsLong();
            }
        }
    }

    private static int lowest(int form, int v) {
        return form == 0 ? (byte) v : form == 1 ? (short) v : v;
    }

    private boolean outside(int reel, int from, int n) {
        return from < 0 || n < 0 || (long) from + n > items[reel].length;
    }

    private long ofReels(String name, int[] a) {
        switch (name) {
            case "reel":
                if (!in(a[0], 0, 3) || !in(a[1], 0, 2) || a[2] > 300) return -2;
                if (a[2] < 0) return finding(5);
                items[a[0]] = new int[a[2]];
                forms[a[0]] = a[1];
                return a[2];
            case "lose": {
                if (!in(a[0], 0, 3)) return -2;
                if (items[a[0]] == null) return finding(1);
                int had = items[a[0]].length;
                items[a[0]] = null;
                return had;
            }
            case "put":
            case "get": {
                boolean get = name.equals("get");
                if (!in(a[0], 0, 3) || !in(a[1], 0, 2)) return get ? Integer.MIN_VALUE : -2;
                int number = items[a[0]] == null ? 1
                    : forms[a[0]] != a[1] ? 3 : !in(a[2], 0, items[a[0]].length - 1) ? 2 : 0;
                if (number != 0) {
                    long refusal = finding(number);
                    return get ? Integer.MIN_VALUE : refusal;
                }
                if (get) return items[a[0]][a[2]];
                items[a[0]][a[2]] = lowest(a[1], a[3]);
                return 1;
            }
            case "copy": {
                if (!in(a[0], 0, 3) || !in(a[2], 0, 3)) return -2;
                if (items[a[0]] == null || items[a[2]] == null) return finding(1);
                if (forms[a[0]] != forms[a[2]]) return finding(4);
                if (outside(a[0], a[1], a[4]) || outside(a[2], a[3], a[4])) return finding(2);
                int[] were = items[a[0]].clone();
                for (int i = 0; i < a[4]; i++) {
                    items[a[2]][a[3] + i] = were[a[1] + i];
                }
                return 1;
            }
            case "add": {
                if (!in(a[0], 0, 7) || !in(a[1], 0, 3) || a[2] < 0 || !in(a[3], 0, 126)
                    || !in(a[4], -1000, 1000)) return -2;
                if (items[a[1]] == null) return finding(1);
                if (rows[a[0]] == null) return -3;
                if (a[2] > items[a[1]].length) return finding(2);
                int[] row = rows[a[0]];
                int i = 0;
                while (i < row.length && a[2] + i < items[a[1]].length) {
                    int at = a[2] + i;
                    items[a[1]][at] = lowest(forms[a[1]], items[a[1]][at] + a[4] * row[(i + a[3]) % row.length]);
                    i++;
                }
                return i;
            }
            case "count":
                return in(a[0], 0, 4) ? counts()[a[0]] : -2;
            default:
                return digest();
        }
    }

    private long[] counts() {
        long there = Arrays.stream(rows).filter(row -> row != null).count();
        return new long[] {there, lengths.size(), doubt, finding, times.size()};
    }

    long digest() {
        List<Long> parts = new ArrayList<>();
        long[] counts = counts();
        for (int what : new int[] {0, 1, 2, 4}) {
            parts.add(counts[what]);
        }
        for (int row = 0; row < 8; row++) {
            if (rows[row] != null) {
                parts.add((long) row);
                parts.add((long) rows[row].length);
                Arrays.stream(rows[row]).forEach(sign -> parts.add((long) sign));
            }
        }
        parts.add(range());
        parts.add(noise);
        long h = 17;
        for (long part : parts) {
            h = 31 * h + part;
        }
        return h;
    }
}
