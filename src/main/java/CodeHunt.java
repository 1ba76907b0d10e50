/** Signs hidden in noise by long rows; README.md says how to use it. */
public final class CodeHunt {
    public static final int NONE = -1, BAD = -2, NOT = -3, FULL = -4;

    private static final int ROWS = 8, MOST_SIGNS = 127;
    private static final int LEAST_BITS = 2, MOST_BITS = 7;
    private static final int REELS = 4, FORMS = 3, MOST_ITEMS = 300;
    private static final int BYTES = 0, SHORTS = 1;
    private static final int TONES = 4, LAST_PLACE = 300, LOUDEST = 10000;
    private static final int MOST_DOUBT = 100, FIRST_DOUBT = 50;
    private static final int MOST_TIMES = 20, MOST_BLOCKS = 20, MOST_STRENGTH = 1000;
    private static final int MOST_LENGTHS = 5, LEAST_LENGTH = 2, MOST_LENGTH = 127;
    private static final int MOST_HALF = 20000;
    private static final int NO_FINDING = 0, NULL = 1, INDEX = 2, CAST = 3, STORE = 4, SIZE = 5;
    private static final int NO_TIME = -1000000, LIKE_REFUSED = -1000;
    private static final int[] PRIMES = {2, 3, 5, 7, 11, 13, 17, 19, 23, 29, 31};

    private final Row[] rows = new Row[ROWS];
    private final Reel[] reels = new Reel[REELS];
    private final Window window = new Window();
    private final Search search = new Search();
    private final Peeling peeling = new Peeling();
    private final Lengths lengths = new Lengths();
    private int doubt = FIRST_DOUBT;
    private int finding = NO_FINDING;

    public CodeHunt() {
        for (int row = 0; row < ROWS; row++) {
            rows[row] = new Row();
        }
        for (int r = 0; r < REELS; r++) {
            reels[r] = new Reel();
        }
    }

    // ---- rows

    public int make(int row, int n, int taps, int start) {
        if (!isRow(row) || !isRegister(n, taps, start)) {
            return BAD;
        }
        rows[row].fillByRegister(n, taps, start);
        return rows[row].size;
    }

    public int period(int n, int taps, int start) {
        return isRegister(n, taps, start) ? stepsToReturn(n, taps, start) : BAD;
    }

    public int full(int n) {
        if (!isBits(n)) {
            return BAD;
        }
        int longest = (1 << n) - 1;
        int many = 0;
        for (int taps = 1; taps <= longest; taps += 2) {
            if (stepsToReturn(n, taps, 1) == longest) {
                many++;
            }
        }
        return many;
    }

    public int join(int a, int b, int d, int c) {
        if (!isRow(a) || !isRow(b) || !isShift(d) || !isRow(c)) {
            return BAD;
        }
        if (!arePaired(a, b)) {
            return NOT;
        }
        // c may be a or b, so the new signs are gathered apart from all three
        int n = rows[a].size;
        for (int i = 0; i < n; i++) {
            window.x[i] = rows[a].signAt(i) * rows[b].signAt(i + d);
        }
        rows[c].fillBySignsOf(window.x, n);
        return n;
    }

    public int load(int row, int reel, int n) {
        if (!isRow(row) || !isReel(reel) || !isSize(n)) {
            return BAD;
        }
        if (reels[reel].lost) {
            return found(NULL);
        }
        if (reels[reel].size < n) {
            return found(INDEX);
        }
        rows[row].fillBySignsOf(reels[reel].items, n);
        return n;
    }

    public int drop(int row) {
        if (!isRow(row)) {
            return BAD;
        }
        if (rows[row].isNone()) {
            return NOT;
        }
        int had = rows[row].size;
        rows[row].size = 0;
        return had;
    }

    public int sign(int row, int i) {
        if (!isRow(row) || !isShift(i)) {
            return BAD;
        }
        return rows[row].isNone() ? NOT : rows[row].signAt(i);
    }

    public int like(int a, int b, int d) {
        if (!isRow(a) || !isRow(b) || !isShift(d)) {
            return LIKE_REFUSED + BAD;
        }
        return arePaired(a, b) ? rows[b].sumOver(rows[a].signs, d) : LIKE_REFUSED + NOT;
    }

    public int most(int a, int b) {
        if (!isRow(a) || !isRow(b)) {
            return BAD;
        }
        if (!arePaired(a, b)) {
            return NOT;
        }
        int greatest = 0;
        for (int d = a == b ? 1 : 0; d < rows[a].size; d++) {
            greatest = Math.max(greatest, Math.abs(rows[b].sumOver(rows[a].signs, d)));
        }
        return greatest;
    }

    // ---- searches

    public int heard(int row, int k, int shift, int tone, int what) {
        if (!isRow(row) || !isPlace(k) || !isShift(shift)
                || tone < 0 || tone >= TONES || what < 0 || what > 1 || rows[row].isNone()) {
            return Integer.MIN_VALUE;
        }
        listen(k, rows[row].size);
        window.turnBack(tone);
        return rows[row].sumOver(what == 0 ? window.turnedX : window.turnedY, shift);
    }

    public int search(int row, int k) {
        int refusal = searchFor(row, k);
        return refusal == 0 ? 1000 * search.tone + search.shift : refusal;
    }

    public int sure(int row, int k) {
        int refusal = searchFor(row, k);
        if (refusal != 0) {
            return refusal;
        }
        return search.greatest > 0 && 100 * search.next <= doubt * search.greatest ? 1 : 0;
    }

    public long power(int row, int k) {
        int refusal = searchFor(row, k);
        return refusal == 0 ? search.greatest : Long.MIN_VALUE - refusal;
    }

    public int doubt(int d) {
        if (d < 0 || d > MOST_DOUBT) {
            return BAD;
        }
        int was = doubt;
        doubt = d;
        return was;
    }

    // ---- taking off, following

    public int peel(int k, int n) {
        if (!isPlace(k) || !isSize(n)) {
            return BAD;
        }
        if (!isSizeOfAnyRow(n)) {
            return NOT;
        }
        listen(k, n);
        peeling.times = 0;
        for (int time = 0; time < MOST_TIMES; time++) {
            if (!takeOffLoudest(n)) {
                break;
            }
        }
        peeling.noise = window.squaresOfX();
        return peeling.times;
    }

    public int peeled(int i, int what) {
        if (i < 0 || i >= peeling.times) {
            return NO_TIME;
        }
        switch (what) {
            case 0:
                return peeling.rowOf[i];
            case 1:
                return peeling.shiftOf[i];
            case 2:
                return peeling.strengthOf[i];
            default:
                return NO_TIME;
        }
    }

    public long noise() {
        return peeling.noise;
    }

    public int follow(int row, int k, int shift, int blocks) {
        if (!isRow(row) || !isPlace(k) || !isShift(shift) || blocks < 1 || blocks > MOST_BLOCKS) {
            return BAD;
        }
        int n = rows[row].size;
        if (n < 1) {
            return NOT;
        }
        int d = shift % n;
        for (int block = 0; block < blocks; block++) {
            listen(k + block * n, n);
            d = loudestNear(rows[row], d) % n;
        }
        return d;
    }

    // ---- ranges, hops

    public int length(int l, int shift) {
        if (l < LEAST_LENGTH || l > MOST_LENGTH || shift < 0 || shift >= l
                || lengths.haveDivisorWith(l)) {
            return BAD;
        }
        if (lengths.size >= MOST_LENGTHS) {
            return FULL;
        }
        lengths.keep(l, shift);
        return lengths.size;
    }

    public int reset() {
        int were = lengths.size;
        lengths.size = 0;
        return were;
    }

    public long range() {
        return lengths.leastFitting();
    }

    public int mend(int half) {
        if (half < 1 || half > MOST_HALF) {
            return BAD;
        }
        int best = 0;
        int mostFit = lengths.howManyFit(0);
        for (int number = 1; number < half; number++) {
            int fit = lengths.howManyFit(number);
            if (fit > mostFit) {
                mostFit = fit;
                best = number;
            }
        }
        return 10 * best + mostFit;
    }

    public int hits(int p, int a, int b, int s, int t) {
        if (!areHops(p, a, b) || s < 0 || s >= p || t < 0 || t >= p) {
            return BAD;
        }
        return meetings(p, a, b, s, t);
    }

    public int worst(int p, int a, int b) {
        if (!areHops(p, a, b)) {
            return BAD;
        }
        int greatest = 0;
        for (int s = 0; s < p; s++) {
            for (int t = a == b && s == 0 ? 1 : 0; t < p; t++) {
                greatest = Math.max(greatest, meetings(p, a, b, s, t));
            }
        }
        return greatest;
    }

    // ---- reels

    public int reel(int r, int form, int n) {
        if (!isReel(r) || !isForm(form) || n > MOST_ITEMS) {
            return BAD;
        }
        if (n < 0) {
            return found(SIZE);
        }
        reels[r].renew(form, n);
        return n;
    }

    public int lose(int r) {
        if (!isReel(r)) {
            return BAD;
        }
        if (reels[r].lost) {
            return found(NULL);
        }
        reels[r].lost = true;
        return reels[r].size;
    }

    public int put(int r, int form, int i, int v) {
        if (!isReel(r) || !isForm(form)) {
            return BAD;
        }
        int trouble = reels[r].troubleAt(form, i);
        if (trouble != NO_FINDING) {
            return found(trouble);
        }
        reels[r].keep(i, v);
        return 1;
    }

    public int get(int r, int form, int i) {
        if (!isReel(r) || !isForm(form)) {
            return Integer.MIN_VALUE;
        }
        int trouble = reels[r].troubleAt(form, i);
        if (trouble != NO_FINDING) {
            found(trouble);
            return Integer.MIN_VALUE;
        }
        return reels[r].itemOrZero(i);
    }

    public int copy(int r, int i, int q, int j, int n) {
        if (!isReel(r) || !isReel(q)) {
            return BAD;
        }
        if (reels[r].lost || reels[q].lost) {
            return found(NULL);
        }
        if (reels[r].form != reels[q].form) {
            return found(STORE);
        }
        if (!reels[r].hasSpan(i, n) || !reels[q].hasSpan(j, n)) {
            return found(INDEX);
        }
        System.arraycopy(reels[r].items, i, reels[q].items, j, n);
        return 1;
    }

    public int add(int row, int reel, int k, int d, int strength) {
        if (!isRow(row) || !isReel(reel) || k < 0 || !isShift(d)
                || strength < -MOST_STRENGTH || strength > MOST_STRENGTH) {
            return BAD;
        }
        if (reels[reel].lost) {
            return found(NULL);
        }
        if (rows[row].isNone()) {
            return NOT;
        }
        if (k > reels[reel].size) {
            return found(INDEX);
        }
        int many = Math.min(rows[row].size, reels[reel].size - k);
        for (int i = 0; i < many; i++) {
            int more = strength * rows[row].signAt(i + d);
            reels[reel].keep(k + i, reels[reel].itemOrZero(k + i) + more);
        }
        return many;
    }

    public int count(int what) {
        switch (what) {
            case 0:
                return rowsThatAre();
            case 1:
                return lengths.size;
            case 2:
                return doubt;
            case 3:
                return finding;
            case 4:
                return peeling.times;
            default:
                return BAD;
        }
    }

    public long digest() {
        long h = 17;
        h = mixed(h, rowsThatAre());
        h = mixed(h, lengths.size);
        h = mixed(h, doubt);
        h = mixed(h, peeling.times);
        for (int row = 0; row < ROWS; row++) {
            if (!rows[row].isNone()) {
                h = rows[row].mixedInto(mixed(h, row));
            }
        }
        h = mixed(h, lengths.leastFitting());
        return mixed(h, peeling.noise);
    }

    // ---- what may be told

    private static boolean isRow(int row) {
        return row >= 0 && row < ROWS;
    }

    private static boolean isReel(int r) {
        return r >= 0 && r < REELS;
    }

    private static boolean isForm(int form) {
        return form >= 0 && form < FORMS;
    }

    private static boolean isShift(int d) {
        return d >= 0 && d < MOST_SIGNS;
    }

    private static boolean isSize(int n) {
        return n >= 1 && n <= MOST_SIGNS;
    }

    private static boolean isPlace(int k) {
        return k >= 0 && k <= LAST_PLACE;
    }

    private static boolean isBits(int n) {
        return n >= LEAST_BITS && n <= MOST_BITS;
    }

    private static boolean isRegister(int n, int taps, int start) {
        if (!isBits(n)) {
            return false;
        }
        int end = 1 << n;
        return taps > 0 && taps < end && (taps & 1) == 1 && start > 0 && start < end;
    }

    private static boolean areHops(int p, int a, int b) {
        boolean prime = false;
        for (int one : PRIMES) {
            prime = prime || one == p;
        }
        return prime && a > 0 && a < p && b > 0 && b < p;
    }

    private boolean arePaired(int a, int b) {
        return !rows[a].isNone() && rows[a].size == rows[b].size;
    }

    private boolean isSizeOfAnyRow(int n) {
        for (int row = 0; row < ROWS; row++) {
            if (rows[row].size == n) {
                return true;
            }
        }
        return false;
    }

    private int found(int number) {
        finding = number;
        return -10 - number;
    }

    // ---- workings

    private static int stepped(int n, int taps, int bits) {
        int parity = Integer.bitCount(bits & taps) & 1;
        return (bits >> 1) | (parity << (n - 1));
    }

    // bit 0 of the taps is set, so no step loses a bit and the start always comes again
    private static int stepsToReturn(int n, int taps, int start) {
        int bits = start;
        for (int steps = 1; steps <= MOST_SIGNS; steps++) {
            bits = stepped(n, taps, bits);
            if (bits == start) {
                return steps;
            }
        }
        return MOST_SIGNS;
    }

    private static int meetings(int p, int a, int b, int s, int t) {
        int many = 0;
        for (int x = 0; x < p; x++) {
            if ((a * x) % p == (b * (x + s) + t) % p) {
                many++;
            }
        }
        return many;
    }

    private static long mixed(long h, long value) {
        return 31 * h + value;
    }

    private int rowsThatAre() {
        int many = 0;
        for (int row = 0; row < ROWS; row++) {
            if (!rows[row].isNone()) {
                many++;
            }
        }
        return many;
    }

    private void listen(int k, int n) {
        window.size = n;
        for (int i = 0; i < n; i++) {
            window.x[i] = quietened(reels[0].itemOrZero(k + i));
            window.y[i] = quietened(reels[1].itemOrZero(k + i));
        }
    }

    private static int quietened(int item) {
        return item < -LOUDEST || item > LOUDEST ? 0 : item;
    }

    private int searchFor(int row, int k) {
        if (!isRow(row) || !isPlace(k)) {
            return BAD;
        }
        if (rows[row].isNone()) {
            return NOT;
        }
        listen(k, rows[row].size);
        search.begin();
        for (int tone = 0; tone < TONES; tone++) {
            window.turnBack(tone);
            for (int shift = 0; shift < rows[row].size; shift++) {
                long u = rows[row].sumOver(window.turnedX, shift);
                long v = rows[row].sumOver(window.turnedY, shift);
                search.weigh(u * u + v * v, tone, shift);
            }
        }
        return 0;
    }

    private boolean takeOffLoudest(int n) {
        int loudest = 0;
        int itsRow = 0;
        int itsShift = 0;
        for (int row = 0; row < ROWS; row++) {
            if (rows[row].size != n) {
                continue;
            }
            for (int shift = 0; shift < n; shift++) {
                int u = rows[row].sumOver(window.x, shift);
                if (Math.abs(u) > Math.abs(loudest)) {
                    loudest = u;
                    itsRow = row;
                    itsShift = shift;
                }
            }
        }
        int strength = roundedRatio(loudest, n);
        if (strength == 0) {
            return false;
        }
        rows[itsRow].takeOff(window.x, itsShift, strength);
        peeling.keep(itsRow, itsShift, strength);
        return true;
    }

    // a half goes up, below 0 too: the floor of u / n and a half, without fractions
    private static int roundedRatio(int u, int n) {
        return n < 1 ? 0 : Math.floorDiv(2 * u + n, 2 * n);
    }

    private int loudestNear(Row row, int d) {
        int before = d + row.size - 1;
        int stay = Math.abs(row.sumOver(window.x, d));
        int back = Math.abs(row.sumOver(window.x, before));
        int ahead = Math.abs(row.sumOver(window.x, d + 1));
        if (stay >= back && stay >= ahead) {
            return d;
        }
        return back >= ahead ? before : d + 1;
    }

    /** Signs in a round; a row that is none has no signs. */
    private static final class Row {
        private final int[] signs = new int[MOST_SIGNS];
        private int size = 0;

        boolean isNone() {
            return size < 1;
        }

        int signAt(int i) {
            return size < 1 ? 0 : signs[Math.floorMod(i, size)];
        }

        void fillByRegister(int n, int taps, int start) {
            size = (1 << n) - 1;
            int bits = start;
            for (int i = 0; i < size; i++) {
                signs[i] = (bits & 1) == 1 ? -1 : 1;
                bits = stepped(n, taps, bits);
            }
        }

        void fillBySignsOf(int[] values, int n) {
            size = Math.min(n, Math.min(values.length, MOST_SIGNS));
            for (int i = 0; i < size; i++) {
                signs[i] = values[i] < 0 ? -1 : 1;
            }
        }

        // the place goes round by hand: this is the innermost loop of every search
        int sumOver(int[] values, int shift) {
            if (size < 1) {
                return 0;
            }
            int sum = 0;
            int at = Math.floorMod(shift, size);
            for (int i = 0; i < size && i < values.length; i++) {
                sum += signs[at] * values[i];
                at = at + 1 < size ? at + 1 : 0;
            }
            return sum;
        }

        void takeOff(int[] values, int shift, int strength) {
            for (int i = 0; i < size && i < values.length; i++) {
                values[i] -= strength * signAt(i + shift);
            }
        }

        long mixedInto(long before) {
            long h = mixed(before, size);
            for (int i = 0; i < size; i++) {
                h = mixed(h, signs[i]);
            }
            return h;
        }
    }

    /** Items of one form; room for the longest is kept, so that a new row makes no object. */
    private static final class Reel {
        private final int[] items = new int[MOST_ITEMS];
        private boolean lost = true;
        private int form = BYTES;
        private int size = 0;

        void renew(int newForm, int n) {
            lost = false;
            form = newForm;
            size = Math.max(0, Math.min(n, MOST_ITEMS));
            for (int i = 0; i < size; i++) {
                items[i] = 0;
            }
        }

        boolean hasItem(int i) {
            return !lost && i >= 0 && i < size;
        }

        int troubleAt(int asForm, int i) {
            if (lost) {
                return NULL;
            }
            if (form != asForm) {
                return CAST;
            }
            return hasItem(i) ? NO_FINDING : INDEX;
        }

        // written without from + n, which could wrap
        boolean hasSpan(int from, int n) {
            return from >= 0 && n >= 0 && from <= size - n;
        }

        int itemOrZero(int i) {
            return hasItem(i) ? items[i] : 0;
        }

        void keep(int i, int v) {
            if (hasItem(i)) {
                items[i] = lowestBits(v);
            }
        }

        int lowestBits(int v) {
            if (form == BYTES) {
                return (byte) v;
            }
            return form == SHORTS ? (short) v : v;
        }
    }

    /** What was heard over as many places as a row has signs, and the same turned back. */
    private static final class Window {
        private final int[] x = new int[MOST_SIGNS];
        private final int[] y = new int[MOST_SIGNS];
        private final int[] turnedX = new int[MOST_SIGNS];
        private final int[] turnedY = new int[MOST_SIGNS];
        private int size = 0;

        void turnBack(int tone) {
            for (int i = 0; i < size; i++) {
                int quarters = (tone * i) & 3;
                boolean swapped = (quarters & 1) == 1;
                int first = swapped ? y[i] : x[i];
                int second = swapped ? x[i] : y[i];
                turnedX[i] = quarters >= 2 ? -first : first;
                turnedY[i] = quarters == 1 || quarters == 2 ? -second : second;
            }
        }

        long squaresOfX() {
            long sum = 0;
            for (int i = 0; i < size; i++) {
                sum += (long) x[i] * x[i];
            }
            return sum;
        }
    }

    /** The greatest power so far and where it was, and the next greatest of all others. */
    private static final class Search {
        private long greatest = -1;
        private long next = -1;
        private int tone = 0;
        private int shift = 0;

        void begin() {
            greatest = -1;
            next = -1;
        }

        // of like ones the first told stays, so tones and shifts are told from the least on
        void weigh(long power, int itsTone, int itsShift) {
            if (power > greatest) {
                next = greatest;
                greatest = power;
                tone = itsTone;
                shift = itsShift;
            } else if (power > next) {
                next = power;
            }
        }
    }

    /** What the latest taking off took, and what it left. */
    private static final class Peeling {
        private final int[] rowOf = new int[MOST_TIMES];
        private final int[] shiftOf = new int[MOST_TIMES];
        private final int[] strengthOf = new int[MOST_TIMES];
        private int times = 0;
        private long noise = 0;

        void keep(int row, int shift, int strength) {
            if (times < MOST_TIMES) {
                rowOf[times] = row;
                shiftOf[times] = shift;
                strengthOf[times] = strength;
                times++;
            }
        }
    }

    /** Lengths without common divisors, each with its shift. */
    private static final class Lengths {
        private final int[] lengthOf = new int[MOST_LENGTHS];
        private final int[] shiftOf = new int[MOST_LENGTHS];
        private int size = 0;

        void keep(int length, int shift) {
            if (size < MOST_LENGTHS) {
                lengthOf[size] = length;
                shiftOf[size] = shift;
                size++;
            }
        }

        boolean haveDivisorWith(int length) {
            for (int divisor = 2; divisor <= length; divisor++) {
                for (int i = 0; i < size; i++) {
                    if (length % divisor == 0 && lengthOf[i] % divisor == 0) {
                        return true;
                    }
                }
            }
            return false;
        }

        boolean fits(long number, int i) {
            return lengthOf[i] > 0 && number % lengthOf[i] == shiftOf[i];
        }

        int howManyFit(int number) {
            int many = 0;
            for (int i = 0; i < size; i++) {
                if (fits(number, i)) {
                    many++;
                }
            }
            return many;
        }

        // steps of the earlier lengths' product keep their shifts, and one of them fits the next
        long leastFitting() {
            long number = 0;
            long step = 1;
            for (int i = 0; i < size; i++) {
                for (int tries = 0; tries < lengthOf[i] && !fits(number, i); tries++) {
                    number += step;
                }
                step *= lengthOf[i];
            }
            return number;
        }
    }
}
