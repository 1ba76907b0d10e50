/** Each sentence about ranges and hops (promises 20 to 25) that names a boundary, with a run of its own. */
public final class RangeEdgesTest {
    private static final Script S = new Script();

    public static void main(String[] args) {
        lengths();
        divisors();
        full();
        reset();
        ranges();
        mended();
        primes();
        hops();
        worst();
        S.end();
    }

    private static void lengths() {
        S.run("20: LENGTHS 2 to 127", """
            length 1 0 = BAD
            length 0 0 = BAD
            length -1 0 = BAD
            length -2 0 = BAD
            length 128 0 = BAD
            length MIN 0 = BAD
            length MAX 0 = BAD
            count 1 = 0
            length 2 0 = 1
            length 127 0 = 2
            count 1 = 2
            """);
        S.run("20: each with a shift below it: 2", """
            length 2 2 = BAD
            length 2 -1 = BAD
            length 2 MAX = BAD
            length 2 MIN = BAD
            count 1 = 0
            length 2 1 = 1
            range = 1
            """);
        S.run("20: each with a shift below it: 127", """
            length 127 127 = BAD
            length 127 128 = BAD
            length 127 -1 = BAD
            count 1 = 0
            length 127 126 = 1
            range = 126
            reset = 1
            length 127 0 = 1
            range = 0
            """);
        S.run("20: how many", """
            length 2 0 = 1
            length 3 0 = 2
            length 5 0 = 3
            length 7 0 = 4
            length 11 0 = 5
            count 1 = 5
            """);
    }

    private static void divisors() {
        S.run("20: no two with a common divisor above 1: the same again", """
            length 9 4 = 1
            length 9 4 = BAD
            length 9 5 = BAD
            count 1 = 1
            range = 4
            """);
        S.run("20: no two with a common divisor above 1: the one divides the other", """
            length 9 4 = 1
            length 3 1 = BAD
            length 27 0 = BAD
            length 126 0 = BAD
            length 8 0 = 2
            length 2 0 = BAD
            length 64 0 = BAD
            """);
        S.run("20: no two with a common divisor above 1: neither divides the other", """
            length 15 0 = 1
            length 6 0 = BAD
            length 10 0 = BAD
            length 21 0 = BAD
            length 125 0 = BAD
            length 14 0 = 2
            length 121 0 = 3
            length 77 0 = BAD
            length 55 0 = BAD
            """);
        S.run("20: no two with a common divisor above 1: great ones", """
            length 127 1 = 1
            length 126 1 = 2
            length 125 1 = 3
            length 124 1 = BAD    # 2, with 126
            length 120 1 = BAD    # with both
            length 119 1 = BAD    # 7, with 126
            length 121 1 = 4
            length 113 1 = 5
            """);
        S.run("20: with each of those that there are", """
            length 4 0 = 1
            length 9 0 = 2
            length 25 0 = 3
            length 49 0 = 4
            length 121 0 = 5
            length 2 0 = BAD
            length 3 0 = BAD
            length 5 0 = BAD
            length 7 0 = BAD
            length 11 0 = BAD
            length 26 0 = BAD
            length 39 0 = BAD
            length 65 0 = BAD
            length 91 0 = BAD
            length 22 0 = BAD
            """);
    }

    private static void full() {
        S.run("20: FULL: up to 5 LENGTHS", """
            length 2 1 = 1
            length 3 2 = 2
            length 5 4 = 3
            length 7 6 = 4
            length 11 10 = 5
            length 13 0 = FULL
            length 127 126 = FULL
            count 1 = 5
            range = 2309
            count 3 = 0
            """);
        S.run("20: BAD comes ahead of FULL", """
            length 2 1 = 1
            length 3 2 = 2
            length 5 4 = 3
            length 7 6 = 4
            length 11 10 = 5
            length 1 0 = BAD
            length 128 0 = BAD
            length 13 13 = BAD
            length 13 -1 = BAD
            length 22 0 = BAD
            length 2 1 = BAD
            length 13 12 = FULL
            """);
    }

    private static void reset() {
        S.run("21: no LENGTHS: how many there were", """
            reset = 0
            length 9 4 = 1
            reset = 1
            reset = 0
            count 1 = 0
            range = 0
            """);
        S.run("21: of five, and there is room again", """
            length 2 1 = 1
            length 3 2 = 2
            length 5 4 = 3
            length 7 6 = 4
            length 11 10 = 5
            length 13 0 = FULL
            reset = 5
            length 2 0 = 1
            length 9 8 = 2
            range = 8
            count 1 = 2
            """);
        S.run("21: nothing else goes", """
            row 0 +-
            doubt 7 = 50
            fill 0 2 3 -3
            peel 0 2 = 1
            length 9 4 = 1
            reset = 1
            count 0 = 1
            count 2 = 7
            count 4 = 1
            signs 0 +-
            items 0 2 3 -3
            """);
    }

    private static void ranges() {
        S.run("22: 0 without LENGTHS", "range = 0");
        S.run("22: the least number not below 0", """
            length 5 0 = 1
            range = 0
            length 7 0 = 2
            range = 0
            length 9 1 = 3
            range = 280
            """);
        S.run("22: one LENGTH: its shift", """
            length 127 126 = 1
            range = 126
            """);
        S.run("22: the order of LENGTHS makes no difference", """
            length 3 2 = 1
            length 127 5 = 2
            length 2 1 = 3
            range = 5
            reset = 3
            length 2 1 = 1
            length 127 5 = 2
            length 3 2 = 3
            range = 5
            """);
        S.run("22: the greatest that can be", """
            length 127 126 = 1
            range = 126
            length 125 124 = 2
            range = 15874
            length 124 123 = 3
            range = 1968499
            length 123 122 = 4
            range = 242125499
            length 121 120 = 5
            range = 29297185499
            """);
        S.run("22: it changes nothing", """
            length 9 4 = 1
            length 10 3 = 2
            range = 13
            range = 13
            count 1 = 2
            """);
    }

    private static void mended() {
        S.run("23: without LENGTHS", """
            mend 1 = 0
            mend 20000 = 0
            """);
        S.run("23: HALF 1 to 20000", """
            length 5 0 = 1
            mend 0 = BAD
            mend -1 = BAD
            mend 20001 = BAD
            mend MIN = BAD
            mend MAX = BAD
            mend 1 = 1
            mend 20000 = 1
            count 1 = 1
            """);
        S.run("23: the number is below HALF: 1", """
            length 2 1 = 1
            mend 1 = 0
            mend 2 = 11
            """);
        S.run("23: the number is below HALF: 20000", """
            length 127 60 = 1
            length 126 91 = 2
            length 125 124 = 3
            range = 19999
            mend 20000 = 199993
            mend 19999 = 39972    # 3997 leaves 60 and 91
            mend 3998 = 39972
            mend 3997 = 601       # 60, 91 and 124 leave one each
            mend 61 = 601
            mend 60 = 0
            """);
        S.run("23: of like ones the least", """
            length 5 0 = 1
            length 7 0 = 2
            length 9 1 = 3
            mend 1 = 2
            mend 280 = 2
            mend 281 = 2803
            mend 20000 = 2803
            """);
        S.run("23: five LENGTHS leave their shifts", """
            length 2 1 = 1
            length 3 1 = 2
            length 5 1 = 3
            length 7 1 = 4
            length 11 1 = 5
            mend 1 = 0
            mend 2 = 15
            mend 20000 = 15
            """);
        S.run("23: no number below HALF leaves a shift", """
            length 127 126 = 1
            length 125 124 = 2
            mend 124 = 0
            mend 125 = 1241
            mend 127 = 1241
            """);
        S.run("23: THE RANGE is not below HALF", """
            length 127 126 = 1
            length 125 124 = 2
            length 124 123 = 3
            range = 1968499
            mend 20000 = 154992   # 15499 is 125 times 124 less 1
            """);
    }

    private static void primes() {
        String primes = " 2 3 5 7 11 13 17 19 23 29 31 ";
        StringBuilder rows = new StringBuilder();
        for (int p = -5; p <= 64; p++) {
            String due = primes.contains(" " + p + " ") ? String.valueOf(p) : "BAD";
            rows.append("hits ").append(p).append(" 1 1 0 0 = ").append(due).append('\n');
            rows.append("worst ").append(p).append(" 1 1 = ").append(due).append('\n');
        }
        S.run("HOPS: a prime p, one of 2 3 5 7 11 13 17 19 23 29 31", rows.toString());
        S.run("HOPS: p far outside", """
            hits MIN 1 1 0 0 = BAD
            hits MAX 1 1 0 0 = BAD
            worst MIN 1 1 = BAD
            worst MAX 1 1 = BAD
            hits 127 1 1 0 0 = BAD
            worst 127 1 1 = BAD
            """);
    }

    private static void hops() {
        S.run("24: a is 1 to p - 1", """
            hits 7 0 1 0 0 = BAD
            hits 7 -1 1 0 0 = BAD
            hits 7 7 1 0 0 = BAD
            hits 7 8 1 0 0 = BAD
            hits 7 MIN 1 0 0 = BAD
            hits 7 MAX 1 0 0 = BAD
            hits 7 1 1 0 0 = 7
            hits 7 6 1 0 0 = 1
            """);
        S.run("24: b is 1 to p - 1", """
            hits 7 1 0 0 0 = BAD
            hits 7 1 -1 0 0 = BAD
            hits 7 1 7 0 0 = BAD
            hits 7 1 8 0 0 = BAD
            hits 7 1 MIN 0 0 = BAD
            hits 7 1 MAX 0 0 = BAD
            hits 7 1 6 0 0 = 1
            """);
        S.run("24: s is 0 to p - 1", """
            hits 7 1 1 -1 0 = BAD
            hits 7 1 1 7 0 = BAD
            hits 7 1 1 MIN 0 = BAD
            hits 7 1 1 MAX 0 = BAD
            hits 7 1 1 0 0 = 7
            hits 7 1 1 6 0 = 0
            hits 7 1 1 6 1 = 7
            """);
        S.run("24: t is 0 to p - 1", """
            hits 7 1 1 0 -1 = BAD
            hits 7 1 1 0 7 = BAD
            hits 7 1 1 0 MIN = BAD
            hits 7 1 1 0 MAX = BAD
            hits 7 1 1 0 6 = 0
            hits 7 1 1 1 6 = 7
            """);
        S.run("24: the least prime", """
            hits 2 1 1 0 0 = 2
            hits 2 1 1 0 1 = 0
            hits 2 1 1 1 0 = 0
            hits 2 1 1 1 1 = 2
            hits 2 2 1 0 0 = BAD
            hits 2 1 2 0 0 = BAD
            hits 2 1 1 2 0 = BAD
            hits 2 1 1 0 2 = BAD
            """);
        S.run("24: the greatest prime, all numbers as great as can be", """
            hits 31 30 30 30 30 = 31
            hits 31 30 30 30 29 = 0
            hits 31 30 1 30 30 = 1
            hits 31 1 30 0 0 = 1
            hits 31 31 1 0 0 = BAD
            hits 31 1 31 0 0 = BAD
            hits 31 1 1 31 0 = BAD
            hits 31 1 1 0 31 = BAD
            """);
        S.run("24: b (x and s) and t: s is in x, t in places", """
            hits 5 2 2 1 0 = 0
            hits 5 2 2 1 3 = 5    # 2 (x + 1) + 3
            hits 5 2 2 1 2 = 0
            hits 5 2 2 3 4 = 5
            hits 5 2 2 4 3 = 0
            hits 5 3 2 1 1 = 1
            """);
    }

    private static void worst() {
        S.run("25: a and b are 1 to p - 1", """
            worst 7 0 1 = BAD
            worst 7 -1 1 = BAD
            worst 7 7 1 = BAD
            worst 7 MIN 1 = BAD
            worst 7 MAX 1 = BAD
            worst 7 1 0 = BAD
            worst 7 1 -1 = BAD
            worst 7 1 7 = BAD
            worst 7 1 MIN = BAD
            worst 7 1 MAX = BAD
            worst 7 1 6 = 1
            worst 7 6 1 = 1
            worst 7 6 6 = 7
            """);
        S.run("25: the least and the greatest prime", """
            worst 2 1 1 = 2
            worst 2 1 2 = BAD
            worst 2 2 1 = BAD
            worst 3 1 2 = 1
            worst 3 2 2 = 3
            worst 31 1 30 = 1
            worst 31 30 30 = 31
            worst 31 31 30 = BAD
            worst 31 30 31 = BAD
            """);
    }
}
