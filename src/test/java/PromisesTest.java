import java.util.Arrays;

/** Each promise of the document by its number, with answers worked out by hand. */
public final class PromisesTest {
    private static final int LOW = Integer.MIN_VALUE, HIGH = Integer.MAX_VALUE;
    private static final int BAD = -2, NOT = -3, FULL = -4;
    private static final int NULL = -11, INDEX = -12, CAST = -13, STORE = -14, SIZE = -15;
    private static int wrong = 0;

    private static void due(int promise, String what, long got, long want) {
        if (got != want) {
            wrong++;
            System.out.println("promise " + promise + ": " + what + " answered " + got + ", due is " + want);
        }
    }

    public static void main(String[] args) {
        newObject();
        make();
        periodAndFull();
        join();
        load();
        dropAndSign();
        likeAndMost();
        heard();
        searchAndPower();
        sureAndDoubt();
        peel();
        peelTwentyTimes();
        peelOrder();
        peeledAndNoise();
        follow();
        lengths();
        range();
        mend();
        hitsAndWorst();
        reelAndLose();
        putAndGet();
        copy();
        add();
        countAndDigest();
        refusalsChangeNothing();
        System.out.println(wrong == 0 ? "all answers are as due" : wrong + " answers are not as due");
        if (wrong != 0) {
            System.exit(1);
        }
    }

    /** Makes a reel of ints with these items. */
    private static void fill(CodeHunt h, int reel, int... items) {
        h.reel(reel, 2, items.length);
        for (int i = 0; i < items.length; i++) {
            h.put(reel, 2, i, items[i]);
        }
    }

    /** Makes a row of these signs, by way of reel 3. */
    private static void row(CodeHunt h, int row, int... signs) {
        fill(h, 3, signs);
        h.load(row, 3, signs.length);
    }

    private static void signs(int promise, CodeHunt h, int row, int... want) {
        for (int i = 0; i < want.length; i++) {
            due(promise, "sign(" + row + ", " + i + ")", h.sign(row, i), want[i]);
        }
    }

    private static void newObject() {
        CodeHunt h = new CodeHunt();
        int[] counts = {0, 0, 50, 0, 0};
        for (int what = 0; what < counts.length; what++) {
            due(1, "count(" + what + ")", h.count(what), counts[what]);
        }
        for (int i = 0; i < 8; i++) {
            due(1, "drop of row " + i, h.drop(i), NOT);
        }
        due(1, "noise", h.noise(), 0);
        due(1, "range", h.range(), 0);
        due(1, "digest", h.digest(), 15089052127L);
        for (int i = 0; i < 4; i++) {
            due(1, "lose of reel " + i, h.lose(i), NULL);
        }
    }

    private static void make() {
        CodeHunt h = new CodeHunt();
        due(2, "2 bits", h.make(0, 2, 3, 1), 3);
        signs(2, h, 0, -1, 1, -1);
        due(2, "another start", h.make(0, 2, 3, 2), 3);
        signs(2, h, 0, 1, -1, -1);
        due(2, "a short period still makes 7", h.make(0, 3, 1, 1), 7);
        signs(2, h, 0, -1, 1, 1, -1, 1, 1, -1);
        due(2, "7 bits in the last row", h.make(7, 7, 127, 127), 127);
        due(2, "rows", h.count(0), 2);
        int[][] bad = {{-1, 3, 3, 1}, {8, 3, 3, 1}, {0, 1, 1, 1}, {0, 8, 1, 1}, {0, 3, 2, 1}, {0, 3, 0, 1},
            {0, 3, 9, 1}, {0, 3, -1, 1}, {0, 3, 3, 0}, {0, 3, 3, 8}, {0, 3, 3, -1}, {LOW, LOW, LOW, LOW},
            {0, 32, 1, 1}, {0, 34, 3, 1}, {0, 3, HIGH, 1}, {0, 3, 3, HIGH}};
        for (int[] a : bad) {
            due(2, "make of row, n, taps, start " + Arrays.toString(a), h.make(a[0], a[1], a[2], a[3]), BAD);
        }
        signs(2, h, 0, -1, 1, 1, -1, 1, 1, -1);
    }

    private static void periodAndFull() {
        CodeHunt h = new CodeHunt();
        due(3, "two bits changing places", h.period(2, 1, 1), 2);
        due(3, "two like bits", h.period(2, 1, 3), 1);
        due(3, "full", h.period(7, 3, 64), 127);
        due(3, "7, 1", h.period(7, 1, 1), 7);
        due(3, "n 1", h.period(1, 1, 1), BAD);
        due(3, "n 8", h.period(8, 3, 1), BAD);
        due(3, "taps without bit 0", h.period(3, 6, 1), BAD);
        due(3, "taps above", h.period(3, 9, 1), BAD);
        due(3, "taps below", h.period(3, -1, 1), BAD);
        due(3, "start 0", h.period(3, 3, 0), BAD);
        due(3, "start above", h.period(3, 3, 8), BAD);
        int[] full = {BAD, BAD, 1, 2, 2, 6, 6, 18, BAD};
        for (int n = 0; n < full.length; n++) {
            due(4, "full(" + n + ")", h.full(n), full[n]);
        }
        due(4, "the least int", h.full(LOW), BAD);
        due(4, "no row is made", h.count(0), 0);
    }

    private static void join() {
        CodeHunt h = new CodeHunt();
        row(h, 0, 1, 1, -1, 1);
        row(h, 1, -1, 1, 1, 1);
        row(h, 2, 1, 1);
        due(5, "joined", h.join(0, 1, 1, 7), 4);
        signs(5, h, 7, 1, 1, -1, -1);
        due(5, "a shift goes round", h.join(0, 1, 125, 6), 4);
        signs(5, h, 6, 1, 1, -1, -1);
        due(5, "into the first", h.join(0, 0, 1, 0), 4);
        signs(5, h, 0, 1, -1, -1, 1);
        due(5, "into the second, over its old signs", h.join(7, 1, 3, 1), 4);
        signs(5, h, 1, 1, -1, -1, -1);
        due(5, "unlike N", h.join(0, 2, 0, 5), NOT);
        due(5, "the first is none", h.join(5, 0, 0, 0), NOT);
        due(5, "the second is none", h.join(0, 5, 0, 0), NOT);
        due(5, "both are none", h.join(5, 5, 0, 0), NOT);
        due(5, "into one of unlike N", h.join(2, 2, 1, 0), 2);
        signs(5, h, 0, 1, 1, 1);
        due(5, "a", h.join(-1, 0, 0, 0), BAD);
        due(5, "b", h.join(0, 8, 0, 0), BAD);
        due(5, "c", h.join(0, 0, 0, 8), BAD);
        due(5, "c ahead of NOT", h.join(5, 5, 0, -1), BAD);
        due(5, "d below", h.join(0, 0, -1, 0), BAD);
        due(5, "d above", h.join(0, 0, 127, 0), BAD);
    }

    private static void load() {
        CodeHunt h = new CodeHunt();
        fill(h, 2, 0, -1, 5, LOW, HIGH);
        due(6, "all items", h.load(3, 2, 5), 5);
        signs(6, h, 3, 1, -1, 1, -1, 1, 1);
        due(6, "some items", h.load(3, 2, 2), 2);
        signs(6, h, 3, 1, -1, 1);
        due(6, "one too many", h.load(3, 2, 6), INDEX);
        due(6, "finding", h.count(3), 2);
        due(6, "a lost reel", h.load(3, 0, 1), NULL);
        due(6, "finding", h.count(3), 1);
        signs(6, h, 3, 1, -1, 1);
        h.reel(2, 0, 300);
        due(6, "as long as can be", h.load(3, 2, 127), 127);
        due(6, "too long", h.load(3, 2, 128), BAD);
        due(6, "0 signs", h.load(3, 2, 0), BAD);
        due(6, "0 signs of a lost reel", h.load(3, 0, 0), BAD);
        due(6, "row", h.load(8, 2, 1), BAD);
        due(6, "row", h.load(-1, 2, 1), BAD);
        due(6, "reel", h.load(3, 4, 1), BAD);
        due(6, "reel", h.load(3, -1, 1), BAD);
        due(6, "no finding by BAD", h.count(3), 1);
    }

    private static void dropAndSign() {
        CodeHunt h = new CodeHunt();
        row(h, 7, 1, -1, -1);
        due(8, "round", h.sign(7, 126), 1);
        due(8, "round", h.sign(7, 125), -1);
        due(8, "above", h.sign(7, 127), BAD);
        due(8, "below", h.sign(7, -1), BAD);
        due(8, "no such row", h.sign(8, 0), BAD);
        due(8, "no such row", h.sign(-1, 0), BAD);
        due(8, "none", h.sign(6, 0), NOT);
        due(8, "BAD ahead of NOT", h.sign(6, 127), BAD);
        due(7, "drop", h.drop(7), 3);
        due(7, "it is none", h.sign(7, 0), NOT);
        due(7, "again", h.drop(7), NOT);
        due(7, "rows", h.count(0), 0);
        due(7, "above", h.drop(8), BAD);
        due(7, "below", h.drop(-1), BAD);
    }

    private static void likeAndMost() {
        CodeHunt h = new CodeHunt();
        row(h, 0, 1, 1, -1, 1);
        row(h, 1, -1, -1, 1, 1);
        row(h, 2, 1);
        row(h, 3, -1);
        int[] likes = {-2, -2, 2, 2, -2, -2};
        for (int d = 0; d < likes.length; d++) {
            due(9, "like at " + d, h.like(0, 1, d), likes[d]);
        }
        due(9, "at 126", h.like(0, 1, 126), 2);
        due(9, "the other way", h.like(1, 0, 1), 2);
        due(9, "of one sign", h.like(2, 3, 126), -1);
        due(9, "unlike N", h.like(0, 2, 0), -1003);
        due(9, "none", h.like(0, 7, 0), -1003);
        due(9, "both none", h.like(7, 7, 0), -1003);
        due(9, "d above", h.like(0, 1, 127), -1002);
        due(9, "d below", h.like(7, 7, -1), -1002);
        due(9, "a", h.like(-1, 1, 0), -1002);
        due(9, "b", h.like(0, 8, 0), -1002);
        due(10, "two rows", h.most(0, 1), 2);
        due(10, "with itself", h.most(0, 0), 0);
        row(h, 4, 1, -1, -1, -1, -1, -1);
        due(10, "with itself, all shifts alike", h.most(4, 4), 2);
        due(10, "with itself, below 0", h.most(1, 1), 4);
        due(10, "with itself, one sign", h.most(2, 2), 0);
        due(10, "two rows of one sign", h.most(2, 3), 1);
        h.join(0, 0, 0, 5);
        h.join(5, 0, 0, 6);
        due(10, "another row with the same signs", h.most(0, 6), 4);
        due(10, "unlike N", h.most(0, 2), NOT);
        due(10, "none", h.most(0, 7), NOT);
        due(10, "both none", h.most(7, 7), NOT);
        due(10, "a", h.most(8, 0), BAD);
        due(10, "b", h.most(7, -1), BAD);
    }

    private static void heard() {
        CodeHunt h = new CodeHunt();
        row(h, 0, 1, 1, 1, -1, 1);
        fill(h, 0, 99, 1, 10, 100, 1000, 10000);
        fill(h, 1, 99, 2, 20, 200, 2000);
        // from 1 on, shift 0: signs + + + - +
        long[][] byTone = {{10111 - 1000, 222 - 2000}, {1 + 20 - 100 + 2000 + 10000, 2 - 10 - 200 - 1000},
            {1 - 10 + 100 + 1000 + 10000, 2 - 20 + 200 + 2000}, {1 - 20 - 100 - 2000 + 10000, 2 + 10 - 200 + 1000}};
        for (int tone = 0; tone < 4; tone++) {
            due(11, "U by tone " + tone, h.heard(0, 1, 0, tone, 0), byTone[tone][0]);
            due(11, "V by tone " + tone, h.heard(0, 1, 0, tone, 1), byTone[tone][1]);
        }
        due(11, "shift 2", h.heard(0, 1, 2, 0, 0), 11111 - 2 * 10);
        due(11, "shift 126, round", h.heard(0, 1, 126, 0, 0), 11111 - 2 * 100);
        due(11, "behind the end", h.heard(0, 5, 0, 0, 0), 10000);
        due(11, "far behind the end", h.heard(0, 300, 0, 3, 1), 0);
        h.put(0, 2, 5, 10001);
        due(11, "too loud is 0", h.heard(0, 5, 0, 0, 0), 0);
        h.put(0, 2, 5, -10001);
        due(11, "too loud is 0", h.heard(0, 5, 0, 0, 0), 0);
        h.put(0, 2, 5, -10000);
        due(11, "as loud as can be", h.heard(0, 5, 0, 0, 0), -10000);
        h.lose(0);
        due(11, "X is lost", h.heard(0, 1, 0, 0, 0), 0);
        due(11, "Y is not", h.heard(0, 1, 0, 0, 1), 222 - 2000);
        due(11, "no finding", h.count(3), 0);
        int[][] bad = {{-1, 0, 0, 0, 0}, {8, 0, 0, 0, 0}, {1, 0, 0, 0, 0}, {0, -1, 0, 0, 0}, {0, 301, 0, 0, 0},
            {0, 0, -1, 0, 0}, {0, 0, 127, 0, 0}, {0, 0, 0, -1, 0}, {0, 0, 0, 4, 0}, {0, 0, 0, 0, -1}, {0, 0, 0, 0, 2}};
        for (int[] a : bad) {
            due(11, "heard " + Arrays.toString(a), h.heard(a[0], a[1], a[2], a[3], a[4]), LOW);
        }
    }

    private static void searchAndPower() {
        CodeHunt h = new CodeHunt();
        h.make(0, 3, 3, 1);
        row(h, 1, 1);
        row(h, 2, 1, 1, 1);
        h.reel(0, 2, 300);
        h.reel(1, 2, 300);
        // the signs of row 0 from shift 4 on, turned on by a quarter a place: X, Y becomes -Y, X
        for (int i = 0; i < 7; i++) {
            int sign = h.sign(0, 4 + i);
            int[][] turned = {{3, 4}, {-4, 3}, {-3, -4}, {4, -3}};
            h.put(0, 2, 100 + i, sign * turned[i % 4][0]);
            h.put(1, 2, 100 + i, sign * turned[i % 4][1]);
        }
        due(12, "tone 1, shift 4", h.search(0, 100), 1004);
        due(14, "its power", h.power(0, 100), 49 * 25);
        due(12, "all like: the least", h.search(0, 200), 0);
        due(14, "nothing heard", h.power(0, 200), 0);
        h.put(0, 2, 200, 7);
        due(12, "like tones and shifts: the least", h.search(2, 200), 0);
        due(14, "one item", h.power(2, 200), 49);
        h.put(0, 2, 200, 10000);
        h.put(1, 2, 200, -10000);
        due(14, "one sign, both parts", h.power(1, 200), 200000000L);
        h.make(7, 7, 3, 1);
        for (int reel = 0; reel < 2; reel++) {
            h.reel(reel, 1, 300);
            for (int time = 0; time < 10; time++) {
                h.add(7, reel, 0, 0, 1000);
            }
        }
        due(14, "as loud as can be", h.power(7, 0), 2 * 1270000L * 1270000L);
        for (int[] a : new int[][] {{-1, 0}, {8, 0}, {0, -1}, {0, 301}, {5, 301}}) {
            due(12, "search " + Arrays.toString(a), h.search(a[0], a[1]), BAD);
            due(13, "sure " + Arrays.toString(a), h.sure(a[0], a[1]), BAD);
            due(14, "power " + Arrays.toString(a), h.power(a[0], a[1]), Long.MIN_VALUE + 2);
        }
        due(12, "none", h.search(5, 0), NOT);
        due(13, "none", h.sure(5, 0), NOT);
        due(14, "none", h.power(5, 0), Long.MIN_VALUE + 3);
    }

    private static void sureAndDoubt() {
        CodeHunt h = new CodeHunt();
        row(h, 0, 1, 1, 1, 1, -1);
        fill(h, 0, 2, 2, 2, 2, -2);
        // the next greatest is 36: U is -6 at shift 4 by tone 1
        due(12, "search", h.search(0, 0), 0);
        due(14, "power", h.power(0, 0), 100);
        due(15, "it was", h.doubt(36), 50);
        due(13, "at the edge", h.sure(0, 0), 1);
        due(15, "it was", h.doubt(35), 36);
        due(13, "below the edge", h.sure(0, 0), 0);
        due(15, "too much", h.doubt(101), BAD);
        due(15, "too little", h.doubt(-1), BAD);
        due(15, "refusals leave it", h.doubt(100), 35);
        due(13, "nothing heard is never sure", h.sure(0, 100), 0);
        row(h, 1, 1);
        due(13, "all tones alike, all doubt", h.sure(1, 0), 1);
        h.doubt(99);
        due(13, "all tones alike", h.sure(1, 0), 0);
        due(15, "none at all", h.doubt(0), 99);
        due(13, "still others", h.sure(0, 0), 0);
        due(32, "doubt", h.count(2), 0);
    }

    private static void peel() {
        CodeHunt h = new CodeHunt();
        row(h, 2, 1, 1);
        fill(h, 0, 50, 5, 2);
        // 7 by 2 is 3.5, so 4; then 1, -2: at shift 0 -1 by 2 is -0.5, so 0
        due(16, "half up", h.peel(1, 2), 1);
        due(17, "strength", h.peeled(0, 2), 4);
        due(18, "left: 1, -2", h.noise(), 5);
        h.put(0, 2, 1, -5);
        h.put(0, 2, 2, -2);
        // -3.5 becomes -3; then -2, 1: -0.5 becomes 0
        due(16, "half up below 0", h.peel(1, 2), 1);
        due(17, "strength", h.peeled(0, 2), -3);
        due(18, "left: -2, 1", h.noise(), 5);
        due(29, "reels stay", h.get(0, 2, 1), -5);
        due(16, "X behind the end", h.peel(2, 2), 1);
        due(17, "-1 by 2 by 2", h.peeled(0, 2), -1);
        due(18, "left: -1, 1", h.noise(), 2);
        due(16, "no row has 3", h.peel(0, 3), NOT);
        due(16, "N 0", h.peel(0, 0), BAD);
        due(16, "N 128", h.peel(0, 128), BAD);
        due(16, "k below", h.peel(-1, 2), BAD);
        due(16, "k above", h.peel(301, 2), BAD);
        due(16, "k above ahead of NOT", h.peel(301, 3), BAD);
        due(18, "refusals leave it", h.noise(), 2);
        due(32, "refusals leave it", h.count(4), 1);
        h.put(0, 2, 1, 10001);
        due(16, "too loud is 0", h.peel(1, 2), 1);
        due(18, "left: 1, -1", h.noise(), 2);
        h.lose(0);
        due(16, "a lost reel", h.peel(0, 2), 0);
        due(18, "nothing left", h.noise(), 0);
        due(32, "no finding", h.count(3), 0);
    }

    private static void peelTwentyTimes() {
        CodeHunt h = new CodeHunt();
        row(h, 0, 1, 1, 1, 1, 1, 1, 1, 1, 1, 1, 1, -1);
        fill(h, 0, 9999, -9999, 9999, 9999, -9999, 9999, -9999, -9999, 9999, -9999, 9999, 1234);
        due(16, "20 times at most", h.peel(0, 12), 20);
        due(32, "times", h.count(4), 20);
        due(17, "the last time has a strength", h.peeled(19, 2) == 0 ? 1 : 0, 0);
        due(17, "no time 20", h.peeled(20, 2), -1000000);
        // what the told times take off X leaves the noise
        long left = 0;
        for (int i = 0; i < 12; i++) {
            long x = h.get(0, 2, i);
            for (int time = 0; time < 20; time++) {
                x -= h.peeled(time, 2) * h.sign(h.peeled(time, 0), i + h.peeled(time, 1));
            }
            left += x * x;
        }
        due(18, "squares of what is left", h.noise(), left);
    }

    private static void peelOrder() {
        CodeHunt h = new CodeHunt();
        row(h, 6, 1, 1, 1, -1);
        row(h, 4, 1, 1, 1, 1, 1);
        row(h, 5, -1, -1, -1, 1);
        fill(h, 0, 6, 6, -6, 6);
        due(16, "one time", h.peel(0, 4), 1);
        due(17, "of like ones the least row", h.peeled(0, 0), 5);
        due(17, "at shift 1", h.peeled(0, 1), 1);
        due(17, "strength below 0", h.peeled(0, 2), -6);
        due(18, "all is taken", h.noise(), 0);
        row(h, 1, 1, -1, 1, -1);
        fill(h, 0, 3, -3, 3, -3);
        due(16, "one time", h.peel(0, 4), 1);
        due(17, "of like ones the least row", h.peeled(0, 0), 1);
        due(17, "then the least shift", h.peeled(0, 1), 0);
        due(17, "strength", h.peeled(0, 2), 3);
    }

    private static void peeledAndNoise() {
        CodeHunt h = new CodeHunt();
        due(17, "before any", h.peeled(0, 0), -1000000);
        due(18, "before any", h.noise(), 0);
        row(h, 0, 1);
        due(16, "before any", h.peel(0, 2), NOT);
        due(17, "after a refused one", h.peeled(0, 0), -1000000);
        fill(h, 0, 0, -7);
        due(16, "one sign", h.peel(1, 1), 1);
        due(17, "i below", h.peeled(-1, 0), -1000000);
        due(17, "i above", h.peeled(1, 0), -1000000);
        due(17, "what below", h.peeled(0, -1), -1000000);
        due(17, "what above", h.peeled(0, 3), -1000000);
        due(17, "strength", h.peeled(0, 2), -7);
        due(16, "a quiet place", h.peel(0, 1), 0);
        due(17, "the earlier one is gone", h.peeled(0, 2), -1000000);
    }

    private static void follow() {
        CodeHunt h = new CodeHunt();
        h.make(0, 3, 3, 1);
        h.reel(0, 1, 300);
        // it drifts on by one in each of 8 blocks, and is turned over in some
        for (int block = 0; block < 8; block++) {
            h.add(0, 0, 10 + 7 * block, (3 + block) % 7, block % 3 == 1 ? -50 : 50);
        }
        due(19, "one block", h.follow(0, 10, 2, 1), 3);
        due(19, "it drifts on, round", h.follow(0, 10, 3, 6), 1);
        due(19, "behind the end it stays", h.follow(0, 10, 3, 20), 3);
        due(19, "a shift above N", h.follow(0, 10, 3 + 7 * 17, 2), 4);
        for (int block = 0; block < 5; block++) {
            h.add(0, 0, 150 + 7 * block, (9 - block) % 7, 50);
        }
        due(19, "it drifts back, round", h.follow(0, 150, 2, 4), 6);
        due(19, "shift 0 back", h.follow(0, 164, 0, 2), 6);
        due(19, "nothing heard", h.follow(0, 300, 126, 20), 0);
        // U at 0 to 7: 0, -2, 0, 0, 2, 0, 2, -2
        row(h, 1, 1, -1, -1, -1, 1, 1, 1, -1);
        fill(h, 0, 1, 0, 1);
        due(19, "d ahead of d and 1", h.follow(1, 0, 6, 1), 6);
        due(19, "d ahead of d - 1", h.follow(1, 0, 7, 1), 7);
        due(19, "d - 1 ahead of d and 1", h.follow(1, 0, 5, 1), 4);
        due(19, "d - 1 ahead of d and 1, round", h.follow(1, 0, 0, 1), 7);
        due(19, "d - 1 alone", h.follow(1, 0, 2, 1), 1);
        due(19, "d and 1 alone", h.follow(1, 0, 3, 1), 4);
        row(h, 3, 1, -1);
        fill(h, 0, 5, 5);
        due(19, "no U at all", h.follow(3, 0, 1, 3), 1);
        row(h, 4, -1);
        due(19, "one sign", h.follow(4, 0, 126, 3), 0);
        due(19, "row", h.follow(8, 0, 0, 1), BAD);
        due(19, "row", h.follow(-1, 0, 0, 1), BAD);
        due(19, "k", h.follow(0, -1, 0, 1), BAD);
        due(19, "k", h.follow(0, 301, 0, 1), BAD);
        due(19, "shift", h.follow(0, 0, -1, 1), BAD);
        due(19, "shift", h.follow(0, 0, 127, 1), BAD);
        due(19, "blocks", h.follow(0, 0, 0, 0), BAD);
        due(19, "blocks", h.follow(0, 0, 0, 21), BAD);
        due(19, "blocks ahead of NOT", h.follow(7, 0, 0, 21), BAD);
        due(19, "none", h.follow(7, 0, 0, 1), NOT);
    }

    private static void lengths() {
        CodeHunt h = new CodeHunt();
        due(20, "too short", h.length(1, 0), BAD);
        due(20, "too long", h.length(128, 0), BAD);
        due(20, "shift below", h.length(9, -1), BAD);
        due(20, "shift above", h.length(9, 9), BAD);
        due(20, "the least", h.length(2, 1), 1);
        due(20, "the same again", h.length(2, 0), BAD);
        due(20, "common divisor", h.length(126, 0), BAD);
        due(20, "the greatest", h.length(127, 126), 2);
        due(20, "9", h.length(9, 0), 3);
        due(20, "common divisor, neither divides", h.length(15, 0), BAD);
        due(20, "25", h.length(25, 24), 4);
        due(20, "49", h.length(49, 48), 5);
        due(20, "common divisor ahead of FULL", h.length(35, 0), BAD);
        due(20, "full", h.length(11, 0), FULL);
        due(32, "lengths", h.count(1), 5);
        due(21, "reset", h.reset(), 5);
        due(21, "again", h.reset(), 0);
        due(32, "lengths", h.count(1), 0);
        due(20, "room again", h.length(35, 0), 1);
    }

    private static void range() {
        CodeHunt h = new CodeHunt();
        due(22, "without lengths", h.range(), 0);
        int[] long5 = {127, 125, 124, 123, 121};
        for (int l : long5) {
            h.length(l, l - 1);
        }
        due(22, "one below the product", h.range(), 127L * 125 * 124 * 123 * 121 - 1);
        h.reset();
        long number = 23456789012L;
        for (int l : long5) {
            h.length(l, (int) (number % l));
        }
        due(22, "a long one", h.range(), number);
        h.reset();
        due(22, "after a reset", h.range(), 0);
        h.length(5, 0);
        due(22, "0", h.range(), 0);
        h.length(3, 2);
        due(22, "5", h.range(), 5);
    }

    private static void mend() {
        CodeHunt h = new CodeHunt();
        due(23, "without lengths", h.mend(20000), 0);
        h.length(11, 5);
        h.length(13, 6);
        h.length(17, 7);
        // 5 by 11 and 6 by 13 leaves 71 first, 5 and 7 by 17 leaves 126, 6 and 7 leaves 58
        long all = h.range();
        due(22, "it leaves 5, 6 and 7", 10000 * (all % 11) + 100 * (all % 13) + all % 17, 50607);
        due(23, "all fit", h.mend(20000), 10 * all + 3);
        due(23, "just below", h.mend((int) all), 10 * 58 + 2);
        due(23, "just in", h.mend((int) all + 1), 10 * all + 3);
        due(23, "two fit: the least", h.mend(59), 582);
        due(23, "one fits: the least", h.mend(58), 51);
        due(23, "none fits", h.mend(5), 0);
        due(23, "half 1", h.mend(1), 0);
        due(23, "half 0", h.mend(0), BAD);
        due(23, "half below 0", h.mend(LOW), BAD);
        due(23, "half above", h.mend(20001), BAD);
    }

    private static void hitsAndWorst() {
        CodeHunt h = new CodeHunt();
        // 2 x and 3 (x + 1) + 1, modulo 5: x is 1
        due(24, "unlike", h.hits(5, 2, 3, 1, 1), 1);
        due(24, "alike, never", h.hits(5, 2, 2, 1, 1), 0);
        due(24, "alike, always", h.hits(5, 2, 2, 1, 3), 5);
        due(24, "the greatest p", h.hits(31, 30, 30, 30, 0), 0);
        int[] primes = {2, 3, 5, 7, 11, 13, 17, 19, 23, 29, 31};
        int at = 0;
        for (int p = -2; p < 40; p++) {
            boolean prime = at < primes.length && primes[at] == p;
            due(24, "p " + p, h.hits(p, 1, 1, 0, 0), prime ? p : BAD);
            due(25, "p " + p, h.worst(p, 1, 1), prime ? p : BAD);
            at += prime ? 1 : 0;
        }
        int[][] bad = {{7, 0, 1, 0, 0}, {7, 7, 1, 0, 0}, {7, 1, 0, 0, 0}, {7, 1, 7, 0, 0}, {7, 1, 1, -1, 0},
            {7, 1, 1, 7, 0}, {7, 1, 1, 0, -1}, {7, 1, 1, 0, 7}};
        for (int[] a : bad) {
            due(24, "hits " + Arrays.toString(a), h.hits(a[0], a[1], a[2], a[3], a[4]), BAD);
        }
        due(25, "unlike hops", h.worst(11, 3, 4), 1);
        due(25, "like hops", h.worst(3, 2, 2), 3);
        due(25, "a below", h.worst(7, 0, 1), BAD);
        due(25, "a above", h.worst(7, 7, 1), BAD);
        due(25, "b below", h.worst(7, 1, 0), BAD);
        due(25, "b above", h.worst(7, 1, 7), BAD);
    }

    private static void reelAndLose() {
        CodeHunt h = new CodeHunt();
        due(26, "empty", h.reel(0, 0, 0), 0);
        due(27, "empty", h.lose(0), 0);
        due(26, "the longest", h.reel(3, 2, 300), 300);
        h.put(3, 2, 299, 5);
        due(26, "a new one", h.reel(3, 2, 300), 300);
        due(26, "its items are 0", h.get(3, 2, 299), 0);
        h.put(3, 2, 299, 5);
        h.reel(3, 2, 10);
        h.reel(3, 2, 300);
        due(26, "its items are 0", h.get(3, 2, 299), 0);
        due(26, "too long", h.reel(3, 2, 301), BAD);
        due(26, "no finding yet", h.count(3), 0);
        due(26, "below 0", h.reel(3, 2, -1), SIZE);
        due(26, "finding", h.count(3), 5);
        due(26, "far below 0", h.reel(3, 2, LOW), SIZE);
        due(26, "reel", h.reel(-1, 0, -1), BAD);
        due(26, "reel", h.reel(4, 0, 0), BAD);
        due(26, "form", h.reel(0, -1, -1), BAD);
        due(26, "form", h.reel(0, 3, 0), BAD);
        due(27, "refused reels left it", h.lose(3), 300);
        due(27, "lost already", h.lose(3), NULL);
        due(27, "finding", h.count(3), 1);
        due(27, "reel", h.lose(4), BAD);
        due(27, "reel", h.lose(-1), BAD);
    }

    private static void putAndGet() {
        CodeHunt h = new CodeHunt();
        int[] kept = {(byte) 0x12345687, (short) 0x12348687, 0x92348687};
        for (int form = 0; form < 3; form++) {
            h.reel(form, form, 3);
            due(28, "put, form " + form, h.put(form, form, 2, form == 0 ? 0x12345687 : 0x92348687), 1);
            due(29, "get, form " + form, h.get(form, form, 2), kept[form]);
            due(29, "its neighbour", h.get(form, form, 1), 0);
        }
        due(28, "no such item", h.put(0, 0, 3, 1), INDEX);
        due(28, "below 0", h.put(0, 0, -1, 1), INDEX);
        due(28, "another form", h.put(0, 1, 0, 1), CAST);
        due(28, "CAST ahead of INDEX", h.put(0, 2, 3, 1), CAST);
        due(28, "lost", h.put(3, 0, 0, 1), NULL);
        due(28, "reel", h.put(4, 0, 0, 1), BAD);
        due(28, "reel", h.put(-1, 0, 0, 1), BAD);
        due(28, "form ahead of NULL", h.put(3, 3, 0, 1), BAD);
        due(28, "form", h.put(0, -1, 0, 1), BAD);
        due(28, "BAD is no finding", h.count(3), 1);
        due(29, "no such item", h.get(0, 0, 3), LOW);
        due(29, "finding", h.count(3), 2);
        due(29, "another form", h.get(0, 1, 3), LOW);
        due(29, "finding", h.count(3), 3);
        due(29, "lost", h.get(3, 1, 3), LOW);
        due(29, "finding", h.count(3), 1);
        due(29, "below 0", h.get(2, 2, LOW), LOW);
        due(29, "finding", h.count(3), 2);
        due(29, "reel", h.get(4, 0, 0), LOW);
        due(29, "reel", h.get(-1, 0, 0), LOW);
        due(29, "form", h.get(0, 3, 0), LOW);
        due(29, "form", h.get(3, -1, 0), LOW);
        due(29, "BAD is no finding", h.count(3), 2);
    }

    private static void items(int promise, CodeHunt h, int reel, int... want) {
        for (int i = 0; i < want.length; i++) {
            due(promise, "get(" + reel + ", 2, " + i + ")", h.get(reel, 2, i), want[i]);
        }
    }

    private static void copy() {
        CodeHunt h = new CodeHunt();
        fill(h, 0, 1, 2, 3, 4, 5);
        fill(h, 1, 0, 0, 0);
        due(30, "to another", h.copy(0, 2, 1, 1, 2), 1);
        items(30, h, 1, 0, 3, 4);
        due(30, "up", h.copy(0, 0, 0, 1, 4), 1);
        items(30, h, 0, 1, 1, 2, 3, 4);
        due(30, "down", h.copy(0, 1, 0, 0, 4), 1);
        items(30, h, 0, 1, 2, 3, 4, 4);
        due(30, "nothing, at both ends", h.copy(0, 5, 1, 3, 0), 1);
        fill(h, 2, 7, 8, 9);
        due(30, "all of it", h.copy(2, 0, 1, 0, 3), 1);
        items(30, h, 1, 7, 8, 9);
        h.reel(2, 1, 9);
        due(30, "unlike forms", h.copy(0, 0, 2, 0, 1), STORE);
        due(30, "STORE ahead of INDEX", h.copy(0, -1, 2, 0, 1), STORE);
        due(30, "finding", h.count(3), 4);
        int[][] outside = {{0, -1, 1, 0, 1}, {0, 0, 1, -1, 1}, {0, 0, 1, 0, -1}, {0, 3, 1, 0, 3}, {0, 0, 1, 1, 3},
            {0, 6, 1, 0, 0}, {0, 0, 1, 4, 0}, {0, HIGH, 1, 0, 2}, {0, 2, 1, HIGH, HIGH}, {0, 0, 1, 0, LOW},
            {0, LOW, 0, LOW, LOW}, {0, 0, 0, 0, HIGH}};
        for (int[] a : outside) {
            due(30, "copy " + Arrays.toString(a), h.copy(a[0], a[1], a[2], a[3], a[4]), INDEX);
        }
        items(30, h, 0, 1, 2, 3, 4, 4);
        items(30, h, 1, 7, 8, 9);
        due(30, "from a lost one", h.copy(3, 0, 0, 0, 0), NULL);
        due(30, "to a lost one", h.copy(0, -1, 3, 0, 0), NULL);
        due(30, "r", h.copy(-1, 0, 3, 0, 0), BAD);
        due(30, "q", h.copy(3, 0, 4, 0, 0), BAD);
    }

    private static void add() {
        CodeHunt h = new CodeHunt();
        row(h, 0, 1, -1, -1);
        fill(h, 0, 10, 20, 30, HIGH, LOW);
        due(31, "a whole row", h.add(0, 0, 0, 0, 5), 3);
        items(31, h, 0, 15, 15, 25, HIGH, LOW);
        due(31, "wraps, shift round", h.add(0, 0, 3, 126, 1), 2);
        items(31, h, 0, 15, 15, 25, LOW, HIGH);
        due(31, "shift 2", h.add(0, 0, 0, 2, -1000), 3);
        items(31, h, 0, 1015, -985, 1025, LOW, HIGH);
        due(31, "at the end", h.add(0, 0, 5, 0, 5), 0);
        due(31, "behind the end", h.add(0, 0, 6, 0, 5), INDEX);
        due(31, "finding", h.count(3), 2);
        due(31, "far behind", h.add(0, 0, HIGH, 0, 5), INDEX);
        h.reel(1, 0, 1);
        due(31, "a byte", h.add(0, 1, 0, 0, 200), 1);
        due(31, "the lowest bits", h.get(1, 0, 0), -56);
        h.reel(1, 1, 2);
        h.put(1, 1, 0, 32767);
        due(31, "a short", h.add(0, 1, 0, 0, 2), 2);
        due(31, "the lowest bits", h.get(1, 1, 0), -32767);
        due(31, "lost ahead of NOT", h.add(7, 2, 0, 0, 1), NULL);
        due(31, "NOT ahead of INDEX", h.add(7, 0, 99, 0, 1), NOT);
        int[][] bad = {{-1, 0, 0, 0, 0}, {8, 0, 0, 0, 0}, {0, -1, 0, 0, 0}, {0, 4, 0, 0, 0}, {0, 0, -1, 0, 0},
            {0, 0, 0, -1, 0}, {0, 0, 0, 127, 0}, {0, 0, 0, 0, 1001}, {0, 0, 0, 0, -1001}, {7, 2, -1, 0, 0}};
        for (int[] a : bad) {
            due(31, "add " + Arrays.toString(a), h.add(a[0], a[1], a[2], a[3], a[4]), BAD);
        }
    }

    private static void countAndDigest() {
        CodeHunt h = new CodeHunt();
        row(h, 5, -1, 1);
        fill(h, 0, 4, -3);
        h.length(9, 4);
        h.length(10, 3);
        h.doubt(7);
        h.lose(1);
        h.peel(0, 2);
        int[] counts = {1, 2, 7, 1, 1};
        for (int what = 0; what < counts.length; what++) {
            due(32, "count(" + what + ")", h.count(what), counts[what]);
        }
        due(32, "below", h.count(-1), BAD);
        due(32, "above", h.count(5), BAD);
        // 4, -3 by -1, 1: U is -7, so -3 is taken off: 1, 0
        long want = 17;
        for (long part : new long[] {1, 2, 7, 1, 5, 2, -1, 1, 13, 1}) {
            want = 31 * want + part;
        }
        due(33, "digest", h.digest(), want);
        due(33, "again", h.digest(), want);
        h.get(3, 0, 0);
        due(33, "findings and items are not in it", h.digest(), want);
        h.drop(5);
        h.reset();
        want = 17;
        for (long part : new long[] {0, 0, 7, 1, 0, 1}) {
            want = 31 * want + part;
        }
        due(33, "without rows and lengths", h.digest(), want);
    }

    private static void refusalsChangeNothing() {
        CodeHunt h = new CodeHunt();
        h.make(0, 3, 3, 1);
        h.reel(0, 2, 10);
        h.add(0, 0, 0, 0, 9);
        h.peel(0, 7);
        h.length(5, 2);
        long before = h.digest();
        h.make(0, 3, 2, 1);
        h.join(0, 1, 0, 0);
        h.load(0, 0, 11);
        h.load(0, 1, 1);
        h.drop(1);
        h.doubt(-1);
        h.peel(0, 8);
        h.length(10, 0);
        h.copy(0, 0, 0, 8, 3);
        h.add(0, 0, 11, 0, 1);
        h.reel(0, 0, -1);
        due(33, "digest behind refusals", h.digest(), before);
        due(28, "the reel behind refusals", h.get(0, 2, 0), -9);
        due(17, "the latest peel behind refusals", h.peeled(0, 2), 9);
    }
}
