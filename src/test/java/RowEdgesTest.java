/** Each sentence about rows and registers (promises 1 to 10) that names a boundary, with a run of its own. */
public final class RowEdgesTest {
    private static final Script S = new Script();

    public static void main(String[] args) {
        rows();
        registers();
        periods();
        joined();
        loaded();
        dropped();
        signs();
        likenesses();
        S.end();
    }

    private static void rows() {
        S.run("1: ROWS 0 .. 7 are none at first", """
            sign 0 0 = NOT
            sign 1 0 = NOT
            sign 2 0 = NOT
            sign 3 0 = NOT
            sign 4 0 = NOT
            sign 5 0 = NOT
            sign 6 0 = NOT
            sign 7 0 = NOT
            count 0 = 0
            drop 0 = NOT
            drop 7 = NOT
            """);
        S.run("1: no LENGTHS", """
            count 1 = 0
            range = 0
            mend 20000 = 0
            reset = 0
            """);
        S.run("1: all REELS are LOST", """
            count 3 = 0
            lose 0 = NULL
            lose 1 = NULL
            lose 2 = NULL
            lose 3 = NULL
            """);
        S.run("1: DOUBT is 50 at first, and no peel() was told", """
            count 2 = 50
            count 4 = 0
            noise = 0
            peeled 0 0 = NOTIME
            """);
        S.run("ROWS 0 .. 7 can all be there at once, each its own", """
            make 0 2 3 1 = 3
            make 1 2 3 2 = 3
            make 2 2 3 3 = 3
            make 3 2 1 1 = 3
            make 4 2 1 2 = 3
            make 5 2 1 3 = 3
            make 6 3 1 1 = 7
            make 7 7 1 64 = 127
            count 0 = 8
            signs 0 -+-
            signs 1 +--
            signs 2 --+
            signs 3 -+-
            signs 4 +-+
            signs 5 ---
            signs 6 -++-++-
            signs 7 ++++++-++++++-
            """);
        S.run("SIGNS 1 to 127: the fewest and the most", """
            reel 2 0 300 = 300
            load 0 2 1 = 1
            load 7 2 127 = 127
            load 0 2 0 = BAD
            load 7 2 128 = BAD
            drop 0 = 1
            drop 7 = 127
            """);
    }

    private static void registers() {
        S.run("2: no such ROW", """
            make -1 2 3 1 = BAD
            make 8 2 3 1 = BAD
            make MIN 2 3 1 = BAD
            make MAX 2 3 1 = BAD
            count 0 = 0
            make 0 2 3 1 = 3
            make 7 2 3 1 = 3
            count 0 = 2
            """);
        S.run("a REGISTER of n bits, 2 to 7", """
            make 0 1 1 1 = BAD
            make 0 0 1 1 = BAD
            make 0 -1 1 1 = BAD
            make 0 8 1 1 = BAD
            make 0 31 1 1 = BAD
            make 0 32 1 1 = BAD  # shifts by 32 are shifts by 0
            make 0 34 3 1 = BAD
            make 0 -30 3 1 = BAD
            make 0 MIN 1 1 = BAD
            make 0 MAX 1 1 = BAD
            count 0 = 0
            make 0 2 1 1 = 3
            make 0 3 1 1 = 7
            make 0 4 1 1 = 15
            make 0 5 1 1 = 31
            make 0 6 1 1 = 63
            make 0 7 1 1 = 127
            """);
        S.run("TAPS of 2 bits, bit 0 being set", """
            make 0 2 0 1 = BAD
            make 0 2 2 1 = BAD
            make 0 2 4 1 = BAD
            make 0 2 5 1 = BAD
            make 0 2 7 1 = BAD
            make 0 2 -1 1 = BAD
            make 0 2 -3 1 = BAD
            make 0 2 MAX 1 = BAD
            make 0 2 MIN 1 = BAD
            make 0 2 -2147483647 1 = BAD
            count 0 = 0
            make 0 2 1 1 = 3
            make 0 2 3 1 = 3
            """);
        S.run("TAPS of 7 bits, bit 0 being set", """
            make 0 7 126 1 = BAD
            make 0 7 64 1 = BAD
            make 0 7 128 1 = BAD
            make 0 7 129 1 = BAD
            make 0 7 255 1 = BAD
            count 0 = 0
            make 0 7 127 1 = 127
            make 1 7 65 1 = 127
            make 2 7 1 1 = 127
            """);
        S.run("START is not 0 and has n bits", """
            make 0 2 3 0 = BAD
            make 0 2 3 4 = BAD
            make 0 2 3 5 = BAD
            make 0 2 3 -1 = BAD
            make 0 2 3 MIN = BAD
            make 0 2 3 MAX = BAD
            make 0 7 3 0 = BAD
            make 0 7 3 128 = BAD
            make 0 7 3 129 = BAD
            make 0 7 3 -127 = BAD
            count 0 = 0
            make 0 2 3 1 = 3
            make 0 2 3 3 = 3
            make 0 7 3 1 = 127
            make 0 7 3 127 = 127
            """);
        S.run("bit 0 is told, all bits go down, bit n - 1 becomes the parity of those of TAPS as they were", """
            make 0 3 3 1 = 7   # 001 100 010 101 110 111 011
            signs 0 -++-+--
            make 0 3 5 2 = 7   # 010 001 100 110 111 011 101
            signs 0 +-++---
            make 0 4 9 8 = 15  # 1000 1100 1110 1111 0111 1011 0101 1010 1101 0110 0011 1001 0100 0010 0001
            signs 0 +++----+-+--++-
            """);
        S.run("MADE is a ROW of 2 to the n less 1 SIGNS, though START is there again before", """
            make 0 7 1 64 = 127
            sign 0 5 = 1
            sign 0 6 = -1
            sign 0 13 = -1
            sign 0 125 = -1
            sign 0 126 = 1
            make 0 2 1 3 = 3
            signs 0 ---
            make 0 7 127 127 = 127
            sign 0 0 = -1
            sign 0 126 = -1
            """);
        S.run("2: a ROW that was there becomes another, longer or shorter", """
            make 3 3 3 1 = 7
            make 3 2 3 2 = 3
            signs 3 +--+--+
            make 3 3 3 1 = 7
            signs 3 -++-+---++-+--
            count 0 = 1
            """);
    }

    private static void periods() {
        S.run("3: PERIOD, its least and its greatest", """
            period 2 1 3 = 1
            period 2 1 1 = 2
            period 2 1 2 = 2
            period 2 3 1 = 3
            period 2 3 2 = 3
            period 2 3 3 = 3
            period 7 1 127 = 1
            period 7 127 127 = 1
            period 7 1 64 = 7
            period 7 3 1 = 127
            period 7 3 127 = 127
            period 7 65 64 = 127
            """);
        S.run("3: PERIOD is told by the START", """
            period 4 1 5 = 2
            period 4 1 15 = 1
            period 4 1 1 = 4
            period 3 7 1 = 4
            period 3 7 5 = 2
            period 3 7 7 = 1
            """);
        S.run("3: n 2 to 7", """
            period 1 1 1 = BAD
            period 0 1 1 = BAD
            period -1 1 1 = BAD
            period 8 1 1 = BAD
            period 34 3 1 = BAD
            period MIN 1 1 = BAD
            period MAX 1 1 = BAD
            """);
        S.run("3: TAPS", """
            period 3 0 1 = BAD
            period 3 2 1 = BAD
            period 3 6 1 = BAD
            period 3 8 1 = BAD
            period 3 9 1 = BAD
            period 3 -1 1 = BAD
            period 3 -7 1 = BAD
            period 7 129 1 = BAD
            period 3 MIN 1 = BAD
            period 3 MAX 1 = BAD
            """);
        S.run("3: START", """
            period 3 3 0 = BAD
            period 3 3 8 = BAD
            period 3 3 9 = BAD
            period 3 3 -1 = BAD
            period 7 3 128 = BAD
            period 3 3 MIN = BAD
            period 3 3 MAX = BAD
            """);
        S.run("3 and 4: no ROW is made", """
            make 0 2 3 2 = 3
            period 3 3 1 = 7
            full 7 = 18
            count 0 = 1
            signs 0 +--
            """);
        S.run("4: full of 2 to 7 bits", """
            full 2 = 1
            full 3 = 2
            full 4 = 2
            full 5 = 6
            full 6 = 6
            full 7 = 18
            """);
        S.run("4: n beside 2 to 7", """
            full 1 = BAD
            full 0 = BAD
            full -1 = BAD
            full 8 = BAD
            full 31 = BAD
            full 32 = BAD
            full 34 = BAD
            full MIN = BAD
            full MAX = BAD
            """);
    }

    private static void joined() {
        S.run("5: ROWS a, b and c are 0 .. 7", """
            row 0 ++-
            row 7 +--
            join -1 0 0 0 = BAD
            join 8 0 0 0 = BAD
            join 0 -1 0 0 = BAD
            join 0 8 0 0 = BAD
            join 0 0 0 -1 = BAD
            join 0 0 0 8 = BAD
            join MIN 0 0 0 = BAD
            join 0 MAX 0 0 = BAD
            join 0 0 0 MIN = BAD
            count 0 = 2
            signs 0 ++-
            signs 7 +--
            join 0 7 0 7 = 3
            signs 7 +-+
            join 7 0 0 0 = 3
            signs 0 +--
            """);
        S.run("5: shifts 0 to 126", """
            row 0 ++-
            join 0 0 -1 1 = BAD
            join 0 0 127 1 = BAD
            join 0 0 MIN 1 = BAD
            join 0 0 MAX 1 = BAD
            count 0 = 1
            join 0 0 0 1 = 3
            signs 1 +++
            join 0 0 126 1 = 3
            signs 1 +++
            join 0 0 125 1 = 3
            signs 1 -+-
            """);
        S.run("JOINED: SIGN i and d of the other is round", """
            row 0 ++++-
            row 1 +++++
            join 1 0 1 2 = 5
            signs 2 +++-+
            join 1 0 4 2 = 5
            signs 2 -++++
            join 1 0 5 2 = 5
            signs 2 ++++-
            join 0 1 4 2 = 5
            signs 2 ++++-
            """);
        S.run("JOINED: a ROW of one SIGN", """
            row 0 -
            row 1 +
            join 0 1 126 2 = 1
            signs 2 -
            join 0 0 126 2 = 1
            signs 2 +
            """);
        S.run("JOINED: ROWS of 127 SIGNS, the last shift", """
            make 0 7 1 64 = 127
            join 0 0 126 1 = 127
            sign 1 0 = 1    # SIGN 0 times SIGN 126: 1, 1
            sign 1 6 = -1   # SIGN 6 times SIGN 5
            sign 1 7 = -1   # SIGN 7 times SIGN 6
            sign 1 8 = 1
            sign 1 126 = -1 # SIGN 126 times SIGN 125
            """);
        S.run("5: ROW c may be a, b or both", """
            row 0 ++-+
            row 1 -+++
            join 0 1 1 0 = 4
            signs 0 ++--
            row 0 ++-+
            join 0 1 1 1 = 4
            signs 1 ++--
            signs 0 ++-+
            join 0 0 1 0 = 4
            signs 0 +--+
            """);
        S.run("5: ROW c may be none, or of another N", """
            row 0 ++-
            row 1 +
            make 2 7 3 1 = 127
            join 0 0 1 1 = 3
            signs 1 +--+--
            join 0 0 1 2 = 3
            signs 2 +--+--
            join 0 0 1 7 = 3
            signs 7 +--+--
            count 0 = 4
            """);
        S.run("5: NOT: a ROW that is none", """
            row 0 ++-
            join 0 1 0 2 = NOT
            join 1 0 0 2 = NOT
            join 1 1 0 2 = NOT
            join 1 2 0 0 = NOT
            count 0 = 1
            signs 0 ++-
            """);
        S.run("5: NOT: two of unlike N", """
            row 0 ++-
            row 1 ++
            row 2 +++-
            row 3 +
            join 0 1 0 0 = NOT
            join 1 0 0 0 = NOT
            join 0 2 0 0 = NOT
            join 2 0 0 0 = NOT
            join 3 0 0 5 = NOT
            signs 0 ++-++-
            count 0 = 4
            """);
        S.run("5: BAD comes ahead of NOT", """
            row 0 ++-
            row 1 ++
            join 5 8 0 0 = BAD
            join -1 5 0 0 = BAD
            join 5 5 127 0 = BAD
            join 5 5 0 8 = BAD
            join 0 1 -1 0 = BAD
            join 0 1 0 -1 = BAD
            """);
    }

    private static void loaded() {
        S.run("6: -1, if below 0, else 1", """
            fill 0 2 0 -1 1 MIN MAX -128
            load 2 0 6 = 6
            signs 2 +-+-+-
            fill 0 0 127 -128 128 0
            load 2 0 4 = 4
            signs 2 +--+
            fill 0 1 32767 32768 -1
            load 2 0 3 = 3
            signs 2 +--
            """);
        S.run("6: n 1 to 127", """
            reel 0 2 300 = 300
            load 0 0 0 = BAD
            load 0 0 -1 = BAD
            load 0 0 128 = BAD
            load 0 0 300 = BAD
            load 0 0 MIN = BAD
            load 0 0 MAX = BAD
            count 0 = 0
            count 3 = 0
            load 0 0 1 = 1
            load 0 0 127 = 127
            """);
        S.run("6: ROW and REEL", """
            fill 0 2 1
            fill 3 2 -1
            load -1 0 1 = BAD
            load 8 0 1 = BAD
            load 0 -1 1 = BAD
            load 0 4 1 = BAD
            load MIN 0 1 = BAD
            load 0 MAX 1 = BAD
            count 0 = 0
            count 3 = 0
            load 0 3 1 = 1
            load 7 0 1 = 1
            signs 0 -
            signs 7 +
            """);
        S.run("6: NULL: the REEL is LOST", """
            row 0 +-
            load 0 0 1 = NULL
            count 3 = 1
            lose 3 = 2
            load 0 3 2 = NULL
            signs 0 +-+
            """);
        S.run("6: INDEX: it has fewer", """
            row 0 -+
            fill 1 0 0 -1 0
            load 0 1 4 = INDEX
            count 3 = 2
            load 0 1 127 = INDEX
            signs 0 -+-
            load 0 1 3 = 3
            signs 0 +-++-+
            load 0 1 2 = 2
            signs 0 +-+-
            """);
        S.run("6: INDEX: an empty REEL", """
            reel 1 0 0 = 0
            load 0 1 1 = INDEX
            count 0 = 0
            load 0 1 0 = BAD
            """);
        S.run("6: INDEX: 126 items, 127 SIGNS", """
            reel 1 0 126 = 126
            load 0 1 127 = INDEX
            load 0 1 126 = 126
            reel 1 0 127 = 127
            load 0 1 127 = 127
            """);
        S.run("6: BAD comes ahead of NULL and INDEX", """
            load 8 0 1 = BAD
            load 0 0 0 = BAD
            load 0 0 128 = BAD
            reel 0 0 0 = 0
            load -1 0 1 = BAD
            load 0 0 128 = BAD
            count 3 = 0
            """);
        S.run("6: what the REEL becomes later is not heard in the ROW", """
            fill 1 0 -1 -1
            load 0 1 2 = 2
            put 1 0 0 5 = 1
            signs 0 --
            lose 1 = 2
            signs 0 --
            """);
    }

    private static void dropped() {
        S.run("7: ROWS 0 .. 7", """
            row 0 ++-
            row 7 +
            drop -1 = BAD
            drop 8 = BAD
            drop MIN = BAD
            drop MAX = BAD
            count 0 = 2
            drop 7 = 1
            count 0 = 1
            drop 0 = 3
            count 0 = 0
            """);
        S.run("7: NOT: it is none, at first and behind a drop", """
            drop 3 = NOT
            row 3 ++-
            drop 3 = 3
            drop 3 = NOT
            sign 3 0 = NOT
            like 3 3 0 = LIKENOT
            most 3 3 = NOT
            heard 3 0 0 0 0 = MIN
            search 3 0 = NOT
            sure 3 0 = NOT
            power 3 0 = LONGNOT
            peel 0 3 = NOT
            follow 3 0 0 1 = NOT
            join 3 3 0 0 = NOT
            add 3 3 0 0 1 = NOT
            """);
        S.run("7: the other ROWS stay", """
            row 0 +-
            row 1 -+
            row 2 --
            drop 1 = 2
            signs 0 +-
            sign 1 0 = NOT
            signs 2 --
            """);
        S.run("7: a dropped ROW can be there again, with its new SIGNS alone", """
            make 0 7 3 1 = 127
            drop 0 = 127
            row 0 +-
            signs 0 +-+-+-
            drop 0 = 2
            """);
    }

    private static void signs() {
        S.run("8: i 0 to 126", """
            row 0 +--
            sign 0 -1 = BAD
            sign 0 127 = BAD
            sign 0 MIN = BAD
            sign 0 MAX = BAD
            sign 0 0 = 1
            sign 0 126 = 1
            """);
        S.run("8: ROWS 0 .. 7", """
            row 0 -
            row 7 +
            sign -1 0 = BAD
            sign 8 0 = BAD
            sign MIN 0 = BAD
            sign MAX 0 = BAD
            sign 0 0 = -1
            sign 7 0 = 1
            """);
        S.run("numbers of SIGNS are taken modulo N: 1", """
            row 0 -
            sign 0 0 = -1
            sign 0 1 = -1
            sign 0 126 = -1
            """);
        S.run("numbers of SIGNS are taken modulo N: 2, 3", """
            row 0 +-
            row 1 -++
            sign 0 125 = -1
            sign 0 126 = 1
            sign 1 123 = -1
            sign 1 124 = 1
            sign 1 125 = 1
            sign 1 126 = -1
            """);
        S.run("numbers of SIGNS are taken modulo N: 126, 127", """
            reel 0 0 127 = 127
            put 0 0 0 -1 = 1
            load 0 0 126 = 126
            load 1 0 127 = 127
            sign 0 125 = 1
            sign 0 126 = -1
            sign 1 0 = -1
            sign 1 125 = 1
            sign 1 126 = 1
            """);
        S.run("8: BAD comes ahead of NOT", """
            sign 0 127 = BAD
            sign 0 -1 = BAD
            sign 8 0 = BAD
            sign 0 126 = NOT
            """);
    }

    private static void likenesses() {
        S.run("9: its refusals are -1002 and -1003", """
            row 0 ++-
            like -1 0 0 = -1002
            like 8 0 0 = -1002
            like 0 -1 0 = -1002
            like 0 8 0 = -1002
            like 0 0 -1 = -1002
            like 0 0 127 = -1002
            like MIN 0 0 = -1002
            like 0 MAX 0 = -1002
            like 0 0 MIN = -1002
            like 0 0 MAX = -1002
            like 0 1 0 = -1003
            like 1 0 0 = -1003
            like 1 1 0 = -1003
            """);
        S.run("9: NOT: two of unlike N", """
            row 0 ++-
            row 1 ++
            row 2 +
            like 0 1 0 = -1003
            like 1 0 0 = -1003
            like 2 1 0 = -1003
            like 0 0 0 = 3
            """);
        S.run("9: BAD comes ahead of NOT", """
            row 0 ++-
            row 1 ++
            like 0 1 127 = -1002
            like 5 5 -1 = -1002
            like 5 8 0 = -1002
            like -1 5 0 = -1002
            """);
        S.run("LIKENESS is round", """
            row 0 ++++-
            row 1 +-++-
            like 0 1 0 = 3   # + - + + +
            like 0 1 1 = -1  # - + + - -
            like 0 1 2 = 3   # + + - + +
            like 0 1 3 = -1  # + - + - -
            like 0 1 4 = -1  # - + - + -
            like 0 1 5 = 3
            like 0 1 6 = -1
            like 0 1 125 = 3
            like 0 1 126 = -1
            """);
        S.run("LIKENESS: SIGN i and d is the other's", """
            row 0 +++---
            row 1 -+++++
            like 0 1 1 = 2   # + + + - - +
            like 1 0 1 = -2  # - + - - - +
            like 0 1 5 = -2
            like 1 0 5 = 2
            """);
        S.run("9: its least and its greatest", """
            make 0 7 3 1 = 127
            like 0 0 0 = 127
            like 0 0 1 = -1
            like 0 0 126 = -1
            reel 0 2 127 = 127
            add 0 0 0 0 -1 = 127
            load 1 0 127 = 127
            like 0 1 0 = -127
            like 1 0 0 = -127
            """);
        S.run("9: ROWS of one SIGN", """
            row 0 +
            row 7 -
            like 0 7 0 = -1
            like 7 0 126 = -1
            like 7 7 126 = 1
            """);
        S.run("10: ROWS 0 .. 7", """
            row 0 ++-
            row 7 --+
            most -1 0 = BAD
            most 8 0 = BAD
            most 0 -1 = BAD
            most 0 8 = BAD
            most MIN 0 = BAD
            most 0 MAX = BAD
            most 0 7 = 3
            most 7 0 = 3
            """);
        S.run("10: NOT, behind BAD", """
            row 0 ++-
            row 1 ++
            most 0 5 = NOT
            most 5 0 = NOT
            most 5 5 = NOT
            most 0 1 = NOT
            most 1 0 = NOT
            most 5 8 = BAD
            most -1 5 = BAD
            """);
        S.run("10: of a ROW with itself all shifts but 0", """
            row 0 ++-
            most 0 0 = 1
            row 0 +-+-
            most 0 0 = 4
            row 0 ++++
            most 0 0 = 4
            row 0 ++++-
            most 0 0 = 1
            make 0 7 3 1 = 127
            most 0 0 = 1
            """);
        S.run("10: of a ROW with another that has its SIGNS, 0 too", """
            row 0 ++-
            row 1 ++-
            most 0 1 = 3
            most 1 0 = 3
            """);
        S.run("10: the amount: below 0 too, and at the last shift", """
            row 0 ++++-
            row 1 +----
            most 0 1 = 5     # -5 at shift 1: the other from 1 on is - - - - +
            row 1 -+---
            most 0 1 = 5
            row 1 ----+
            most 0 1 = 5
            """);
        S.run("10: N is 1: 0", """
            row 0 +
            most 0 0 = 0
            row 0 -
            most 0 0 = 0
            """);
        S.run("10: two ROWS of one SIGN have the shift 0", """
            row 0 +
            row 1 -
            most 0 1 = 1
            most 1 0 = 1
            """);
        S.run("10: two SIGNS", """
            row 0 +-
            row 1 ++
            most 0 0 = 2
            most 1 1 = 2
            most 0 1 = 0
            """);
    }
}
