/** Each sentence about reels, counts and the digest (promises 26 to 33) that names a boundary, with a run of its own. */
public final class ReelEdgesTest {
    private static final Script S = new Script();

    public static void main(String[] args) {
        reels();
        lost();
        put();
        lowestBits();
        get();
        copied();
        copyRefused();
        added();
        addRefused();
        counts();
        findings();
        digests();
        lastCall();
        S.end();
    }

    private static void reels() {
        S.run("26: REELS 0 .. 3", """
            reel -1 0 1 = BAD
            reel 4 0 1 = BAD
            reel MIN 0 1 = BAD
            reel MAX 0 1 = BAD
            count 3 = 0
            reel 0 0 1 = 1
            reel 3 0 1 = 1
            lose 0 = 1
            lose 1 = NULL
            lose 2 = NULL
            lose 3 = 1
            """);
        S.run("26: FORMS 0 bytes, 1 shorts, 2 ints", """
            reel 0 -1 1 = BAD
            reel 0 3 1 = BAD
            reel 0 MIN 1 = BAD
            reel 0 MAX 1 = BAD
            count 3 = 0
            lose 0 = NULL
            reel 0 0 1 = 1
            reel 1 1 1 = 1
            reel 2 2 1 = 1
            get 0 0 0 = 0
            get 1 1 0 = 0
            get 2 2 0 = 0
            """);
        S.run("26: 0 to 300 items", """
            reel 0 0 0 = 0
            reel 1 1 300 = 300
            reel 2 2 1 = 1
            reel 2 2 301 = BAD
            reel 2 2 MAX = BAD
            count 3 = 0
            lose 0 = 0
            lose 1 = 300
            lose 2 = 1
            """);
        S.run("26: SIZE: below 0", """
            fill 2 2 8 9
            reel 2 0 -1 = SIZE
            count 3 = 5
            reel 2 0 MIN = SIZE
            reel 1 0 -300 = SIZE
            items 2 2 8 9
            lose 2 = 2
            lose 1 = NULL
            """);
        S.run("26: BAD comes ahead of SIZE", """
            reel 4 0 -1 = BAD
            reel -1 0 -1 = BAD
            reel 0 3 -1 = BAD
            reel 0 -1 -1 = BAD
            count 3 = 0
            """);
        S.run("26: items are 0 at first, in a new row too", """
            reel 0 2 300 = 300
            get 0 2 0 = 0
            get 0 2 299 = 0
            put 0 2 0 5 = 1
            put 0 2 299 6 = 1
            reel 0 2 300 = 300
            get 0 2 0 = 0
            get 0 2 299 = 0
            """);
        S.run("26: items are 0 at first, behind a shorter row and one that was LOST", """
            fill 0 2 5 6 7
            reel 0 2 1 = 1
            get 0 2 0 = 0
            put 0 2 0 4 = 1
            lose 0 = 1
            reel 0 2 3 = 3
            items 0 2 0 0 0
            """);
        S.run("26: a new row may be longer, shorter, of another FORM", """
            fill 0 0 1 2 3
            reel 0 1 2 = 2
            get 0 0 0 = MIN
            count 3 = 3
            get 0 1 2 = MIN
            count 3 = 2
            items 0 1 0 0
            reel 0 2 4 = 4
            items 0 2 0 0 0 0
            """);
        S.run("26: a refused reel() leaves the old one", """
            fill 0 1 7 8
            reel 0 2 301 = BAD
            reel 0 3 1 = BAD
            reel 0 2 -1 = SIZE
            items 0 1 7 8
            lose 0 = 2
            """);
        S.run("26: the other REELS stay", """
            fill 0 2 1
            fill 1 2 2
            fill 2 2 3
            fill 3 2 4
            reel 1 2 1 = 1
            items 0 2 1
            items 1 2 0
            items 2 2 3
            items 3 2 4
            """);
    }

    private static void lost() {
        S.run("27: REELS 0 .. 3", """
            lose -1 = BAD
            lose 4 = BAD
            lose MIN = BAD
            lose MAX = BAD
            count 3 = 0
            """);
        S.run("27: how many items it had", """
            reel 0 0 0 = 0
            lose 0 = 0
            reel 3 2 300 = 300
            lose 3 = 300
            """);
        S.run("27: NULL: LOST at first, LOST again", """
            lose 0 = NULL
            count 3 = 1
            reel 0 0 0 = 0
            lose 0 = 0
            lose 0 = NULL
            """);
        S.run("27: the other REELS stay", """
            fill 0 2 1
            fill 1 2 2
            fill 3 2 4
            lose 1 = 1
            items 0 2 1
            items 3 2 4
            get 1 2 0 = MIN
            """);
    }

    private static void put() {
        S.run("28: BAD: REEL, FORM", """
            reel 0 0 1 = 1
            put -1 0 0 5 = BAD
            put 4 0 0 5 = BAD
            put MIN 0 0 5 = BAD
            put MAX 0 0 5 = BAD
            put 0 -1 0 5 = BAD
            put 0 3 0 5 = BAD
            put 0 MIN 0 5 = BAD
            put 0 MAX 0 5 = BAD
            count 3 = 0
            items 0 0 0
            """);
        S.run("28: NULL", """
            put 0 0 0 5 = NULL
            count 3 = 1
            put 3 2 -1 5 = NULL
            reel 0 0 1 = 1
            lose 0 = 1
            put 0 0 0 5 = NULL
            reel 0 0 1 = 1
            items 0 0 0
            """);
        S.run("28: CAST: it has another FORM", """
            reel 0 0 1 = 1
            reel 1 1 1 = 1
            reel 2 2 1 = 1
            put 0 1 0 5 = CAST
            count 3 = 3
            put 0 2 0 5 = CAST
            put 1 0 0 5 = CAST
            put 1 2 0 5 = CAST
            put 2 0 0 5 = CAST
            put 2 1 0 5 = CAST
            items 0 0 0
            items 1 1 0
            items 2 2 0
            put 0 0 0 5 = 1
            put 1 1 0 5 = 1
            put 2 2 0 5 = 1
            """);
        S.run("28: INDEX: there is no such item", """
            reel 0 2 3 = 3
            put 0 2 -1 5 = INDEX
            count 3 = 2
            put 0 2 3 5 = INDEX
            put 0 2 300 5 = INDEX
            put 0 2 MIN 5 = INDEX
            put 0 2 MAX 5 = INDEX
            items 0 2 0 0 0
            put 0 2 0 5 = 1
            put 0 2 2 7 = 1
            items 0 2 5 0 7
            """);
        S.run("28: INDEX: an empty REEL and a full one", """
            reel 0 2 0 = 0
            put 0 2 0 5 = INDEX
            reel 0 2 300 = 300
            put 0 2 300 5 = INDEX
            put 0 2 299 5 = 1
            get 0 2 299 = 5
            """);
        S.run("28: BAD comes ahead of NULL, CAST and INDEX", """
            put 4 0 0 5 = BAD
            put 0 3 0 5 = BAD
            reel 0 0 1 = 1
            put 0 3 1 5 = BAD
            put 4 1 1 5 = BAD
            count 3 = 0
            """);
        S.run("28: NULL comes ahead of CAST and INDEX, CAST ahead of INDEX", """
            put 0 1 -1 5 = NULL
            reel 0 0 1 = 1
            put 0 1 1 5 = CAST
            put 0 1 -1 5 = CAST
            put 0 0 1 5 = INDEX
            lose 0 = 1
            put 0 1 1 5 = NULL
            """);
    }

    private static void lowestBits() {
        S.run("28: the lowest bits of a byte", """
            fill 0 0 127 128 -128 -129 255 256 -256 MAX MIN
            items 0 0 127 -128 -128 127 -1 0 0 -1 0
            """);
        S.run("28: the lowest bits of a short", """
            fill 0 1 32767 32768 -32768 -32769 65535 65536 -65536 MAX MIN 255
            items 0 1 32767 -32768 -32768 32767 -1 0 0 -1 0 255
            """);
        S.run("28: the lowest bits of an int are all", """
            fill 0 2 MAX MIN 65536 -1 -2147483647
            items 0 2 MAX MIN 65536 -1 -2147483647
            """);
    }

    private static void get() {
        S.run("29: BAD is the least int and no FINDING", """
            fill 0 0 5
            get -1 0 0 = MIN
            get 4 0 0 = MIN
            get MIN 0 0 = MIN
            get MAX 0 0 = MIN
            get 0 -1 0 = MIN
            get 0 3 0 = MIN
            get 0 MIN 0 = MIN
            get 0 MAX 0 = MIN
            count 3 = 0
            get 0 0 0 = 5
            """);
        S.run("29: NULL is the least int, count() 3 tells", """
            get 0 0 0 = MIN
            count 3 = 1
            reel 0 0 -1 = SIZE
            get 3 2 299 = MIN
            count 3 = 1
            """);
        S.run("29: CAST is the least int, count() 3 tells", """
            reel 0 0 1 = 1
            reel 1 1 1 = 1
            reel 2 2 1 = 1
            get 0 1 0 = MIN
            count 3 = 3
            get 3 0 0 = MIN
            count 3 = 1
            get 0 2 0 = MIN
            count 3 = 3
            get 1 0 0 = MIN
            get 1 2 0 = MIN
            get 2 0 0 = MIN
            get 2 1 0 = MIN
            count 3 = 3
            """);
        S.run("29: INDEX is the least int, count() 3 tells", """
            reel 0 2 3 = 3
            get 0 2 -1 = MIN
            count 3 = 2
            get 1 2 0 = MIN
            count 3 = 1
            get 0 2 3 = MIN
            count 3 = 2
            get 0 2 MIN = MIN
            get 0 2 MAX = MIN
            get 0 2 0 = 0
            get 0 2 2 = 0
            reel 0 2 0 = 0
            get 0 2 0 = MIN
            """);
        S.run("29: INDEX: 299 is the last item of 300", """
            reel 0 1 300 = 300
            get 0 1 299 = 0
            count 3 = 0
            get 0 1 300 = MIN
            count 3 = 2
            """);
        S.run("29: NULL comes ahead of CAST and INDEX, CAST ahead of INDEX", """
            get 0 1 -1 = MIN
            count 3 = 1
            reel 0 0 1 = 1
            get 0 1 1 = MIN
            count 3 = 3
            get 0 0 1 = MIN
            count 3 = 2
            """);
        S.run("29: BAD comes ahead of all FINDINGS", """
            get 0 3 0 = MIN
            get 4 0 0 = MIN
            reel 0 0 1 = 1
            get 0 3 5 = MIN
            count 3 = 0
            """);
        S.run("29: an item that is the least int is no FINDING", """
            fill 0 2 MIN
            get 0 2 0 = MIN
            count 3 = 0
            """);
    }

    private static void copied() {
        S.run("30: to another REEL", """
            fill 0 2 1 2 3 4 5
            reel 1 2 4 = 4
            copy 0 1 1 2 2 = 1
            items 1 2 0 0 2 3
            items 0 2 1 2 3 4 5
            """);
        S.run("30: REEL q is perhaps r: as they were, upwards", """
            fill 0 2 1 2 3 4 5
            copy 0 0 0 1 4 = 1
            items 0 2 1 1 2 3 4
            """);
        S.run("30: REEL q is perhaps r: as they were, downwards", """
            fill 0 2 1 2 3 4 5
            copy 0 1 0 0 4 = 1
            items 0 2 2 3 4 5 5
            """);
        S.run("30: REEL q is perhaps r: on itself", """
            fill 0 2 1 2 3
            copy 0 0 0 0 3 = 1
            items 0 2 1 2 3
            """);
        S.run("30: no item, up to behind the end", """
            fill 0 2 1 2
            fill 1 2 3
            copy 0 0 1 0 0 = 1
            copy 0 2 1 1 0 = 1
            items 0 2 1 2
            items 1 2 3
            reel 2 2 0 = 0
            copy 2 0 2 0 0 = 1
            copy 2 0 0 2 0 = 1
            copy 0 0 2 0 0 = 1
            count 3 = 0
            """);
        S.run("30: all 300 items", """
            reel 0 0 300 = 300
            reel 3 0 300 = 300
            put 0 0 0 7 = 1
            put 0 0 299 -8 = 1
            copy 0 0 3 0 300 = 1
            get 3 0 0 = 7
            get 3 0 299 = -8
            copy 0 0 3 0 301 = INDEX
            """);
        S.run("30: the last item of each", """
            fill 0 1 1 2 3
            fill 1 1 4 5
            copy 0 2 1 1 1 = 1
            items 1 1 4 3
            copy 1 0 0 2 1 = 1
            items 0 1 1 2 4
            """);
    }

    private static void copyRefused() {
        S.run("30: BAD: the REELS", """
            fill 0 2 1
            copy -1 0 0 0 1 = BAD
            copy 4 0 0 0 1 = BAD
            copy 0 0 -1 0 1 = BAD
            copy 0 0 4 0 1 = BAD
            copy MIN 0 0 0 1 = BAD
            copy 0 0 MAX 0 1 = BAD
            count 3 = 0
            fill 3 2 6
            copy 3 0 0 0 1 = 1
            items 0 2 6
            """);
        S.run("30: NULL: r, q", """
            fill 0 2 1
            copy 0 0 1 0 1 = NULL
            count 3 = 1
            copy 1 0 0 0 1 = NULL
            copy 1 0 1 0 0 = NULL
            copy 1 0 2 0 0 = NULL
            items 0 2 1
            """);
        S.run("30: STORE: unlike FORMS, though no item is meant", """
            fill 0 0 1
            fill 1 1 2
            fill 2 2 3
            copy 0 0 1 0 1 = STORE
            count 3 = 4
            copy 1 0 0 0 1 = STORE
            copy 0 0 2 0 1 = STORE
            copy 2 0 0 0 1 = STORE
            copy 1 0 2 0 1 = STORE
            copy 2 0 1 0 1 = STORE
            copy 0 0 1 0 0 = STORE
            items 0 0 1
            items 1 1 2
            items 2 2 3
            """);
        S.run("30: INDEX: below 0", """
            fill 0 2 1 2 3
            fill 1 2 4 5 6
            copy 0 -1 1 0 1 = INDEX
            count 3 = 2
            copy 0 0 1 -1 1 = INDEX
            copy 0 0 1 0 -1 = INDEX
            copy 0 1 1 1 -1 = INDEX
            copy 0 -1 1 0 0 = INDEX
            copy 0 0 1 -1 0 = INDEX
            copy 0 MIN 1 0 1 = INDEX
            copy 0 0 1 MIN 1 = INDEX
            copy 0 0 1 0 MIN = INDEX
            copy 0 3 1 3 MIN = INDEX
            copy 0 -1 0 -1 4 = INDEX
            items 0 2 1 2 3
            items 1 2 4 5 6
            """);
        S.run("30: INDEX: r has not so many", """
            fill 0 2 1 2 3
            fill 1 2 4 5 6 7 8
            copy 0 0 1 0 4 = INDEX
            count 3 = 2
            copy 0 1 1 0 3 = INDEX
            copy 0 3 1 0 1 = INDEX
            copy 0 4 1 0 0 = INDEX
            copy 0 MAX 1 0 1 = INDEX
            copy 0 MAX 1 0 0 = INDEX
            copy 0 1 1 0 MAX = INDEX
            copy 0 MAX 1 0 MAX = INDEX
            items 1 2 4 5 6 7 8
            copy 0 1 1 0 2 = 1
            """);
        S.run("30: INDEX: q has not so many, and none of them comes", """
            fill 0 2 1 2 3 4 5
            fill 1 2 6 7 8
            copy 0 0 1 0 4 = INDEX
            count 3 = 2
            copy 0 0 1 1 3 = INDEX
            copy 0 0 1 3 1 = INDEX
            copy 0 0 1 4 0 = INDEX
            copy 0 0 1 MAX 1 = INDEX
            copy 0 0 1 MAX 0 = INDEX
            copy 0 0 1 MAX MAX = INDEX
            items 1 2 6 7 8
            copy 0 0 1 1 2 = 1
            """);
        S.run("30: INDEX: no item of an empty REEL", """
            reel 0 2 0 = 0
            fill 1 2 4
            copy 0 0 1 0 1 = INDEX
            copy 1 0 0 0 1 = INDEX
            copy 0 1 1 0 0 = INDEX
            items 1 2 4
            """);
        S.run("30: BAD comes ahead of NULL, STORE and INDEX", """
            copy 0 0 4 0 1 = BAD
            copy -1 0 0 0 1 = BAD
            fill 0 0 1
            copy 0 -1 4 0 1 = BAD
            copy 4 0 0 5 1 = BAD
            count 3 = 0
            """);
        S.run("30: NULL comes ahead of STORE and INDEX", """
            fill 0 2 1
            copy 0 -1 1 0 1 = NULL
            copy 1 0 0 9 1 = NULL
            fill 1 0 1
            lose 1 = 1
            copy 0 0 1 0 1 = NULL
            copy 1 0 0 0 1 = NULL
            """);
        S.run("30: STORE comes ahead of INDEX", """
            fill 0 2 1
            fill 1 0 1
            copy 0 -1 1 0 1 = STORE
            copy 0 0 1 2 1 = STORE
            copy 0 0 1 0 -1 = STORE
            copy 0 0 1 0 MAX = STORE
            count 3 = 4
            """);
    }

    private static void added() {
        S.run("31: for as many i as there are items", """
            row 0 +--
            fill 0 2 10 20 30 40
            add 0 0 0 0 5 = 3
            items 0 2 15 15 25 40
            add 0 0 1 0 5 = 3
            items 0 2 15 20 20 35
            add 0 0 2 0 5 = 2
            items 0 2 15 20 25 30
            add 0 0 3 0 5 = 1
            items 0 2 15 20 25 35
            add 0 0 4 0 5 = 0
            items 0 2 15 20 25 35
            """);
        S.run("31: k may be how many it has: an empty REEL", """
            row 0 +--
            reel 0 2 0 = 0
            add 0 0 0 0 5 = 0
            add 0 0 1 0 5 = INDEX
            """);
        S.run("31: k up to 300", """
            row 0 +--
            reel 0 2 300 = 300
            add 0 0 297 0 5 = 3
            add 0 0 298 0 5 = 2
            add 0 0 299 0 5 = 1
            add 0 0 300 0 5 = 0
            add 0 0 301 0 5 = INDEX
            get 0 2 297 = 5
            get 0 2 298 = 0
            get 0 2 299 = -5
            """);
        S.run("31: SIGN i and d, round", """
            row 0 +--
            fill 0 2 0 0 0
            add 0 0 0 1 5 = 3
            items 0 2 -5 -5 5
            fill 0 2 0 0 0
            add 0 0 0 2 5 = 3
            items 0 2 -5 5 -5
            fill 0 2 0 0 0
            add 0 0 0 126 5 = 3
            items 0 2 5 -5 -5
            fill 0 2 0 0 0
            add 0 0 0 125 5 = 3
            items 0 2 -5 5 -5
            """);
        S.run("31: a ROW of one SIGN", """
            row 0 -
            fill 0 2 0 0
            add 0 0 1 126 5 = 1
            items 0 2 0 -5
            """);
        S.run("31: strength -1000 to 1000", """
            row 0 +-
            fill 0 2 0 0
            add 0 0 0 0 -1001 = BAD
            add 0 0 0 0 1001 = BAD
            add 0 0 0 0 MIN = BAD
            add 0 0 0 0 MAX = BAD
            items 0 2 0 0
            add 0 0 0 0 1000 = 2
            items 0 2 1000 -1000
            add 0 0 0 0 -1000 = 2
            items 0 2 0 0
            add 0 0 0 0 0 = 2
            items 0 2 0 0
            """);
        S.run("31: the lowest bits of a byte", """
            row 0 +-
            fill 0 0 127 -128
            add 0 0 0 0 1 = 2
            items 0 0 -128 127
            fill 0 0 0 0
            add 0 0 0 0 1000 = 2
            items 0 0 -24 24
            """);
        S.run("31: the lowest bits of a short", """
            row 0 +-
            fill 0 1 32767 -32768
            add 0 0 0 0 1 = 2
            items 0 1 -32768 32767
            fill 0 1 32000 -32000
            add 0 0 0 0 1000 = 2
            items 0 1 -32536 32536
            """);
        S.run("31: the lowest bits of an int", """
            row 0 +-
            fill 0 2 MAX MIN
            add 0 0 0 0 1 = 2
            items 0 2 MIN MAX
            add 0 0 0 0 -1000 = 2
            items 0 2 2147482648 -2147482649
            """);
        S.run("31: a row of 127 SIGNS", """
            make 7 7 1 64 = 127
            reel 3 0 300 = 300
            add 7 3 100 0 9 = 127
            get 3 0 99 = 0
            get 3 0 100 = 9
            get 3 0 106 = -9
            get 3 0 226 = 9
            get 3 0 227 = 0
            """);
    }

    private static void addRefused() {
        S.run("31: BAD: ROW, REEL", """
            row 0 +
            row 7 +
            reel 0 2 1 = 1
            add -1 0 0 0 1 = BAD
            add 8 0 0 0 1 = BAD
            add MIN 0 0 0 1 = BAD
            add MAX 0 0 0 1 = BAD
            add 0 -1 0 0 1 = BAD
            add 0 4 0 0 1 = BAD
            add 0 MIN 0 0 1 = BAD
            add 0 MAX 0 0 1 = BAD
            count 3 = 0
            items 0 2 0
            add 7 3 0 0 1 = 1
            items 3 2 1
            """);
        S.run("31: BAD: k below 0", """
            row 0 +
            reel 0 2 1 = 1
            add 0 0 -1 0 1 = BAD
            add 0 0 MIN 0 1 = BAD
            count 3 = 0
            items 0 2 0
            add 0 0 0 0 1 = 1
            """);
        S.run("31: BAD: d", """
            row 0 +
            reel 0 2 1 = 1
            add 0 0 0 -1 1 = BAD
            add 0 0 0 127 1 = BAD
            add 0 0 0 MIN 1 = BAD
            add 0 0 0 MAX 1 = BAD
            items 0 2 0
            add 0 0 0 126 1 = 1
            """);
        S.run("31: NULL", """
            row 0 +
            add 0 0 0 0 1 = NULL
            count 3 = 1
            lose 3 = 1
            add 0 3 0 0 1 = NULL
            """);
        S.run("31: NOT", """
            reel 0 2 1 = 1
            add 0 0 0 0 1 = NOT
            count 3 = 0
            items 0 2 0
            """);
        S.run("31: INDEX: k above how many it has", """
            row 0 +
            reel 0 2 3 = 3
            add 0 0 4 0 1 = INDEX
            count 3 = 2
            add 0 0 301 0 1 = INDEX
            add 0 0 MAX 0 1 = INDEX
            items 0 2 0 0 0
            add 0 0 3 0 1 = 0
            """);
        S.run("31: BAD comes ahead of NULL, NOT and INDEX", """
            add 0 0 -1 0 1 = BAD
            add 0 0 0 127 1 = BAD
            add 0 0 0 0 1001 = BAD
            add 8 0 0 0 1 = BAD
            reel 0 2 1 = 1
            add 0 0 0 -1 1 = BAD
            add 0 0 9 0 -1001 = BAD
            count 3 = 0
            """);
        S.run("31: NULL comes ahead of NOT and INDEX, NOT ahead of INDEX", """
            add 0 0 9 0 1 = NULL
            row 0 +
            add 0 0 9 0 1 = NULL
            add 5 0 0 0 1 = NULL
            count 3 = 1
            add 5 3 9 0 1 = NOT
            count 3 = 1
            add 0 3 9 0 1 = INDEX
            count 3 = 2
            """);
    }

    private static void counts() {
        S.run("32: what is 0 to 4", """
            count -1 = BAD
            count 5 = BAD
            count MIN = BAD
            count MAX = BAD
            count 0 = 0
            count 1 = 0
            count 2 = 50
            count 3 = 0
            count 4 = 0
            """);
        S.run("32: 0 ROWS that there are, up to 8", """
            reel 0 2 1 = 1
            load 0 0 1 = 1
            count 0 = 1
            load 0 0 1 = 1
            count 0 = 1
            load 7 0 1 = 1
            count 0 = 2
            load 1 0 1 = 1
            load 2 0 1 = 1
            load 3 0 1 = 1
            load 4 0 1 = 1
            load 5 0 1 = 1
            load 6 0 1 = 1
            count 0 = 8
            drop 0 = 1
            count 0 = 7
            """);
        S.run("32: 4 times of the latest peel()", """
            row 0 ++++
            row 1 ++--
            fill 0 2 12 12 4 4
            count 4 = 0
            peel 0 4 = 2
            count 4 = 2
            peel 0 5 = NOT
            count 4 = 2
            peel 300 4 = 0
            count 4 = 0
            """);
    }

    private static void findings() {
        S.run("32: 3 the number of the latest FINDING", """
            count 3 = 0
            lose 0 = -11
            count 3 = 1
            reel 0 0 1 = 1
            count 3 = 1
            put 0 0 1 0 = -12
            count 3 = 2
            put 0 1 0 0 = -13
            count 3 = 3
            reel 1 1 1 = 1
            copy 0 0 1 0 1 = -14
            count 3 = 4
            reel 0 0 -1 = -15
            count 3 = 5
            lose 2 = -11
            count 3 = 1
            """);
        S.run("FINDINGS: calls that are taken leave count() 3", """
            reel 0 0 -1 = SIZE
            row 0 +-
            fill 0 2 5 -5
            peel 0 2 = 1
            heard 0 0 0 0 0 = 10
            search 0 0 = 0
            follow 0 0 0 1 = 0
            copy 0 0 0 1 1 = 1
            add 0 0 0 0 1 = 2
            lose 0 = 2
            length 9 4 = 1
            reset = 1
            doubt 1 = 50
            drop 0 = 2
            count 3 = 5
            """);
        S.run("FINDINGS: BAD, NOT and FULL leave count() 3", """
            reel 0 0 -1 = SIZE
            reel 0 0 301 = BAD
            lose 4 = BAD
            put 0 3 0 0 = BAD
            get 4 0 0 = MIN
            copy 4 0 0 0 0 = BAD
            add 8 0 0 0 0 = BAD
            load 0 0 128 = BAD
            drop 0 = NOT
            sign 0 0 = NOT
            heard 0 0 0 0 0 = MIN
            peel 0 1 = NOT
            count 5 = BAD
            length 2 0 = 1
            length 3 0 = 2
            length 5 0 = 3
            length 7 0 = 4
            length 11 0 = 5
            length 13 0 = FULL
            count 3 = 5
            """);
        S.run("FINDINGS change nothing but count() 3", """
            row 0 +-
            fill 0 2 5 -6
            peel 0 2 = 1
            length 9 4 = 1
            count 4 = 1
            load 0 0 3 = INDEX
            load 0 1 1 = NULL
            put 0 2 2 7 = INDEX
            put 0 0 0 7 = CAST
            copy 0 0 0 1 2 = INDEX
            add 0 0 3 0 9 = INDEX
            reel 0 0 -1 = SIZE
            signs 0 +-+
            items 0 2 5 -6
            lose 0 = 2
            noise = 1
            range = 4
            """);
    }

    private static void digests() {
        S.run("33: of a new object", "digest = 15089052127");
        S.run("33: a ROW's number, N and SIGNS", """
            row 0 +
            digest = 450370842983650
            row 0 -
            digest = 450370842981728
            drop 0 = 1
            digest = 15089052127
            row 7 +
            digest = 450370849448297
            """);
        S.run("33: each ROW that there is, from the least on", """
            row 7 --+
            row 0 +-
            row 3 -
            digest = 2030244096797421408
            """);
        S.run("33: all ROWS", """
            row 0 +-
            row 1 +-
            row 2 +-
            row 3 +-
            row 4 +-
            row 5 +-
            row 6 +-
            row 7 +-
            digest = 9161811154650275131
            """);
        S.run("33: longs that wrap, 127 SIGNS", """
            make 2 7 127 127 = 127
            digest = 7832243176084839492
            """);
        S.run("33: range(), a long one", """
            length 127 126 = 1
            length 125 124 = 2
            length 124 123 = 3
            length 123 122 = 4
            length 121 120 = 5
            digest = 923306420201
            reset = 5
            digest = 15089052127
            """);
        S.run("33: DOUBT at its ends", """
            doubt 0 = 50
            digest = 15087562577
            doubt 100 = 0
            digest = 15090541677
            """);
        S.run("33: times and noise()", """
            row 0 +-
            fill 0 2 4 -3
            peel 0 2 = 1
            digest = 13961497020919392
            drop 0 = 2
            digest = 15089053089
            """);
        S.run("33: noise(), a long one", """
            row 0 ++++++++++++++++++++++
            row 1 +-+-+-+-+-+-+-+-+-+-+-
            reel 0 1 22 = 22
            add 1 0 0 0 1000 = 22
            add 1 0 0 0 1000 = 22
            add 1 0 0 0 1000 = 22
            add 1 0 0 0 1000 = 22
            add 1 0 0 0 1000 = 22
            add 1 0 0 0 1000 = 22
            add 1 0 0 0 1000 = 22
            add 1 0 0 0 1000 = 22
            add 1 0 0 0 1000 = 22
            add 1 0 0 0 1000 = 22
            drop 1 = 22
            peel 0 22 = 0
            digest = -6541382286928753164
            """);
        S.run("33: FINDINGS and REELS are not in it", """
            digest = 15089052127
            lose 0 = NULL
            digest = 15089052127
            fill 0 2 5 6
            digest = 15089052127
            """);
        S.run("33: it changes nothing", """
            row 0 +-
            length 9 4 = 1
            digest = %1$d
            digest = %1$d
            count 0 = 1
            count 1 = 1
            range = 4
            """.formatted(digest(1, 1, 50, 0, 0, 2, 1, -1, 4, 0)));
    }

    private static void lastCall() {
        S.run("an object is used for 512 calls", "row 0 +-\nreel 0 2 3 = 3\n"
            + "add 0 0 1 0 7 = 2\n".repeat(504) + "add 0 0 2 0 1 = 1\nitems 0 2 0 3528 -3527\n");
    }

    private static long digest(long... parts) {
        long h = 17;
        for (long part : parts) {
            h = 31 * h + part;
        }
        return h;
    }
}
