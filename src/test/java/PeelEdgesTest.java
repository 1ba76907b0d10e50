/** Each sentence about taking off and following (promises 16 to 19) that names a boundary, with a run of its own. */
public final class PeelEdgesTest {
    private static final Script S = new Script();

    public static void main(String[] args) {
        rounding();
        likeOnes();
        howManyTimes();
        whatIsTakenOff();
        peelRefused();
        peeled();
        noise();
        following();
        followingOfLikeOnes();
        followingManyBlocks();
        followRefused();
        S.end();
    }

    private static void rounding() {
        S.run("STRENGTH is rounded half up: 0.5 is 1", """
            row 0 ++
            fill 0 2 1 0
            peel 0 2 = 1
            peeled 0 2 = 1
            noise = 1        # 0 -1 is left: -0.5 is 0
            """);
        S.run("STRENGTH is rounded half up: -0.5 is 0, and it ends", """
            row 0 ++
            fill 0 2 -1 0
            peel 0 2 = 0
            peeled 0 2 = NOTIME
            noise = 1
            """);
        S.run("STRENGTH is rounded half up: 1.5 is 2", """
            row 0 ++
            fill 0 2 3 0
            peel 0 2 = 1
            peeled 0 2 = 2
            noise = 5        # 1 -2
            """);
        S.run("STRENGTH is rounded half up: -1.5 is -1", """
            row 0 ++
            fill 0 2 -3 0
            peel 0 2 = 1
            peeled 0 2 = -1
            noise = 5        # -2 1
            """);
        S.run("STRENGTH is rounded to the nearest: thirds", """
            row 0 +++
            fill 0 2 1 0 0 2 0 0 -1 0 0 -2 0 0 4 0 0 5 0 0 -4 0 0 -5 0 0
            peel 0 3 = 0
            noise = 1
            peel 3 3 = 1
            peeled 0 2 = 1
            noise = 3        # 1 -1 -1
            peel 6 3 = 0
            noise = 1
            peel 9 3 = 1
            peeled 0 2 = -1
            noise = 3        # -1 1 1
            peel 12 3 = 1
            peeled 0 2 = 1
            peel 15 3 = 1
            peeled 0 2 = 2
            peel 18 3 = 1
            peeled 0 2 = -1
            peel 21 3 = 1
            peeled 0 2 = -2
            """);
        S.run("STRENGTH is rounded to the nearest: quarters", """
            row 0 ++++
            fill 0 2 1 0 0 0 2 0 0 0 -2 0 0 0 -3 0 0 0
            peel 0 4 = 0
            noise = 1
            peel 4 4 = 1
            peeled 0 2 = 1
            noise = 4
            peel 8 4 = 0
            noise = 4
            peel 12 4 = 1
            peeled 0 2 = -1
            noise = 7        # -2 1 1 1
            """);
        S.run("STRENGTH, its greatest amount", """
            row 0 +
            fill 0 2 10000 -10000
            peel 0 1 = 1
            peeled 0 2 = 10000
            noise = 0
            peel 1 1 = 1
            peeled 0 2 = -10000
            noise = 0
            """);
    }

    private static void likeOnes() {
        S.run("TAKING OFF: of like ones the least ROW, though another's STRENGTH would not be 0", """
            row 3 --
            row 5 ++
            fill 0 2 1 0
            peel 0 2 = 0
            noise = 1
            drop 3 = 2
            peel 0 2 = 1
            peeled 0 0 = 5
            peeled 0 2 = 1
            """);
        S.run("TAKING OFF: of like ones the least ROW, then the least shift", """
            row 1 -+-+
            row 2 +-+-
            row 6 +-+-
            fill 0 2 6 -6 6 -6
            peel 0 4 = 1
            peeled 0 0 = 1
            peeled 0 1 = 0
            peeled 0 2 = -6
            drop 1 = 4
            peel 0 4 = 1
            peeled 0 0 = 2
            peeled 0 1 = 0
            peeled 0 2 = 6
            drop 2 = 4
            peel 0 4 = 1
            peeled 0 0 = 6
            """);
        S.run("TAKING OFF: the least ROW, though its shift is greater", """
            row 0 -+++
            row 1 +++-
            fill 0 2 6 6 6 -6
            peel 0 4 = 1
            peeled 0 0 = 0
            peeled 0 1 = 1
            peeled 0 2 = 6
            noise = 0
            """);
        S.run("TAKING OFF: of like ones the least shift, though its STRENGTH is 0", """
            row 0 +-
            fill 0 2 0 1 1 0
            peel 0 2 = 0      # U is -1 at 0, 1 at 1
            noise = 1
            peel 2 2 = 1
            peeled 0 1 = 0
            peeled 0 2 = 1
            noise = 1
            """);
        S.run("TAKING OFF: the greatest amount, of a later ROW and shift, below 0", """
            row 0 ++++
            row 7 +++-
            fill 0 2 -5 -5 5 -5
            peel 0 4 = 1
            peeled 0 0 = 7
            peeled 0 1 = 1
            peeled 0 2 = -5
            noise = 0
            """);
    }

    private static void howManyTimes() {
        S.run("TAKING OFF: 19 times", """
            row 0 +-+
            fill 0 2 6361 12 50
            peel 0 3 = 19
            count 4 = 19
            peeled 0 1 = 0
            peeled 0 2 = 2133
            peeled 18 1 = 1
            peeled 18 2 = 1
            peeled 19 2 = NOTIME
            noise = 1
            """);
        S.run("TAKING OFF: 20 times", """
            row 0 +--
            fill 0 2 30 2734 25
            peel 0 3 = 20
            count 4 = 20
            peeled 0 1 = 1
            peeled 0 2 = -913
            peeled 19 1 = 1
            peeled 19 2 = -1
            peeled 20 2 = NOTIME
            noise = 1
            """);
        S.run("TAKING OFF: 20 times at most, where a 21st would go", """
            row 0 +--
            fill 0 2 42 13 6981
            peel 0 3 = 20
            count 4 = 20
            peeled 19 0 = 0
            peeled 19 1 = 2
            peeled 19 2 = -1
            peeled 20 0 = NOTIME
            noise = 2
            """);
        S.run("TAKING OFF: 20 times at most, where much is left", """
            row 6 +---+
            fill 0 2 576 7 8366 6735 23
            peel 0 5 = 20
            peeled 0 0 = 6
            peeled 0 1 = 4
            peeled 0 2 = -2908
            peeled 19 0 = 6
            peeled 19 1 = 4
            peeled 19 2 = -124
            noise = 169074
            """);
        S.run("TAKING OFF: no time, where nothing was heard", """
            row 0 ++-
            peel 0 3 = 0      # REEL 0 is LOST
            noise = 0
            count 4 = 0
            reel 0 2 0 = 0
            peel 0 3 = 0
            reel 0 2 300 = 300
            peel 0 3 = 0
            peel 300 3 = 0
            noise = 0
            count 3 = 0
            """);
    }

    private static void whatIsTakenOff() {
        S.run("TAKING OFF: of all ROWS with N SIGNS, of no other", """
            row 0 +
            row 1 ++
            row 2 +++
            row 3 ++++
            fill 0 2 8 8 8 8
            peel 0 3 = 1
            peeled 0 0 = 2
            peel 0 1 = 1
            peeled 0 0 = 0
            peel 0 4 = 1
            peeled 0 0 = 3
            peel 0 2 = 1
            peeled 0 0 = 1
            noise = 0
            """);
        S.run("TAKING OFF: for i from 0 to N - 1, no further", """
            row 0 ++
            fill 0 2 50 4 4 60
            peel 1 2 = 1
            peeled 0 2 = 4
            noise = 0
            peel 2 2 = 1
            peeled 0 2 = 32
            noise = 1568      # -28 28
            """);
        S.run("TAKING OFF: SIGN i and d, round", """
            row 0 ++-
            fill 0 2 9 -9 9
            peel 0 3 = 1
            peeled 0 1 = 1
            peeled 0 2 = 9
            noise = 0
            fill 0 2 -9 9 9
            peel 0 3 = 1
            peeled 0 1 = 2
            noise = 0
            """);
        S.run("TAKING OFF: of X alone, REELS stay as they are", """
            row 0 ++
            fill 0 2 4 4
            fill 1 2 10000 10000
            peel 0 2 = 1
            peeled 0 2 = 4
            noise = 0
            items 0 2 4 4
            items 1 2 10000 10000
            peel 0 2 = 1
            """);
        S.run("TAKING OFF: without TONES", """
            row 0 ++++
            fill 0 2 4 -4 4 -4
            peel 0 4 = 0
            noise = 64
            """);
        S.run("TAKING OFF: X is 0, if below -10000 or above 10000", """
            row 0 +
            fill 0 2 10001 -10001 MIN MAX 10000
            peel 0 1 = 0
            noise = 0
            peel 1 1 = 0
            noise = 0
            peel 2 1 = 0
            peel 3 1 = 0
            noise = 0
            peel 4 1 = 1
            """);
        S.run("TAKING OFF: X is 0 behind the end", """
            row 0 ++
            reel 0 1 300 = 300
            put 0 1 299 4 = 1
            peel 299 2 = 1
            peeled 0 2 = 2
            noise = 8         # 2 -2
            peel 300 2 = 0
            noise = 0
            """);
        S.run("TAKING OFF: one ROW behind another", """
            row 0 ++++
            row 1 ++--
            fill 0 2 12 12 4 4
            peel 0 4 = 2
            peeled 0 0 = 0
            peeled 0 1 = 0
            peeled 0 2 = 8
            peeled 1 0 = 1
            peeled 1 1 = 0
            peeled 1 2 = 4
            noise = 0
            """);
        S.run("TAKING OFF: 127 SIGNS, the last shift", """
            make 7 7 3 1 = 127
            reel 0 1 300 = 300
            add 7 0 173 126 -1000 = 127
            peel 173 127 = 1
            peeled 0 0 = 7
            peeled 0 1 = 126
            peeled 0 2 = -1000
            noise = 0
            """);
    }

    private static void peelRefused() {
        S.run("16: k 0 to 300", """
            row 0 +
            peel -1 1 = BAD
            peel 301 1 = BAD
            peel MIN 1 = BAD
            peel MAX 1 = BAD
            peel 0 1 = 0
            peel 300 1 = 0
            """);
        S.run("16: N 1 to 127", """
            row 0 +
            make 1 7 3 1 = 127
            peel 0 0 = BAD
            peel 0 -1 = BAD
            peel 0 128 = BAD
            peel 0 MIN = BAD
            peel 0 MAX = BAD
            peel 0 1 = 0
            peel 0 127 = 0
            """);
        S.run("16: NOT: no ROW has N", """
            peel 0 1 = NOT
            peel 300 127 = NOT
            row 4 ++-
            peel 0 2 = NOT
            peel 0 4 = NOT
            peel 0 3 = 0
            drop 4 = 3
            peel 0 3 = NOT
            """);
        S.run("16: BAD comes ahead of NOT", """
            peel 301 1 = BAD
            peel -1 127 = BAD
            peel 0 0 = BAD
            peel 0 128 = BAD
            """);
        S.run("a refused peel() changes nothing", """
            row 0 ++
            fill 0 2 9 7
            peel 0 2 = 1
            fill 0 2 1 1
            peel 0 3 = NOT
            peel 301 2 = BAD
            peel 0 0 = BAD
            peeled 0 2 = 8
            noise = 2
            count 4 = 1
            """);
    }

    private static void peeled() {
        S.run("17: before any", """
            peeled 0 0 = NOTIME
            peeled 0 1 = NOTIME
            peeled 0 2 = NOTIME
            peeled -1 0 = NOTIME
            peel 0 1 = NOT
            peeled 0 0 = NOTIME
            """);
        S.run("17: time i", """
            row 0 ++++
            row 1 ++--
            fill 0 2 12 12 4 4
            peel 0 4 = 2
            peeled -1 0 = NOTIME
            peeled 2 0 = NOTIME
            peeled 3 0 = NOTIME
            peeled 19 0 = NOTIME
            peeled 20 0 = NOTIME
            peeled MIN 0 = NOTIME
            peeled MAX 0 = NOTIME
            peeled 0 0 = 0
            peeled 1 0 = 1
            """);
        S.run("17: 0 ROW, 1 shift, 2 STRENGTH, and no other", """
            row 4 ++-
            fill 0 2 -9 9 9
            peel 0 3 = 1
            peeled 0 -1 = NOTIME
            peeled 0 3 = NOTIME
            peeled 0 MIN = NOTIME
            peeled 0 MAX = NOTIME
            peeled 0 0 = 4
            peeled 0 1 = 2
            peeled 0 2 = 9
            """);
        S.run("17: the latest peel(): a shorter one ends what the longer told", """
            row 0 ++++
            row 1 ++--
            fill 0 2 12 12 4 4 0 0 0 0
            peel 0 4 = 2
            peel 4 4 = 0
            peeled 0 0 = NOTIME
            peeled 1 0 = NOTIME
            count 4 = 0
            noise = 0
            peel 2 4 = 2      # 4 4 0 0
            peeled 1 2 = 2
            """);
        S.run("17: it stays, whatever becomes of ROWS and REELS", """
            row 6 ++-
            fill 0 2 -9 9 8
            peel 0 3 = 1
            drop 6 = 3
            lose 0 = 3
            reset = 0
            peeled 0 0 = 6
            peeled 0 1 = 2
            peeled 0 2 = 9
            noise = 1
            count 4 = 1
            """);
        S.run("17: searches and following are no peel()", """
            row 6 ++-
            fill 0 2 -9 9 8
            peel 0 3 = 1
            search 6 1 = 0
            follow 6 0 1 20 = 2
            heard 6 0 1 1 0 = -17
            join 6 6 1 6 = 3
            peeled 0 1 = 2
            noise = 1
            """);
    }

    private static void noise() {
        S.run("18: 0 before any", """
            noise = 0
            row 0 +
            fill 0 2 7
            noise = 0
            peel 0 2 = NOT
            noise = 0
            """);
        S.run("NOISE is the squares' sum of what is left, below 0 too", """
            row 0 ++++
            fill 0 2 3 -3 3 -3
            peel 0 4 = 0
            noise = 36
            """);
        S.run("NOISE, longer than an int", """
            row 0 ++++++++++++++++++++++
            reel 0 1 22 = 22
            row 1 +-+-+-+-+-+-+-+-+-+-+-
            add 1 0 0 0 1000 = 22
            add 1 0 0 0 1000 = 22
            add 1 0 0 0 1000 = 22
            add 1 0 0 0 1000 = 22
            add 1 0 0 0 1000 = 22
            add 1 0 0 0 1000 = 22
            add 1 0 0 0 1000 = 22
            add 1 0 0 0 1000 = 22
            add 1 0 0 0 1000 = 22
            add 1 0 0 0 1000 = 22
            drop 1 = 22
            peel 0 22 = 0
            noise = 2200000000
            """);
        loudItemLeft();
    }

    /** All items are 10000 in amount, but the 20 times heap up 48678 on item 0, whose square alone is above the ints. */
    private static void loudItemLeft() {
        String signs = "+++++--+++-+-+--++++------++-+-+-+-+-+--++++-++++-+-++-+-++++++-"
            + "++----++-+--+--+-+-+-++-++-------+--+++--+--+-++-----+++++-----";
        S.run("NOISE, one square longer than an int", "row 1 " + signs + "\nreel 0 1 127 = 127\n"
            + "add 1 0 0 0 1000 = 127\n".repeat(10) + """
            drop 1 = 127
            make 0 7 3 1 = 127
            peel 0 127 = 20
            peeled 0 1 = 13
            peeled 0 2 = 2126
            peeled 19 1 = 97
            peeled 19 2 = 1855
            noise = 3157893724
            """);
    }

    private static void following() {
        S.run("FOLLOWING: the shift is told modulo N", """
            make 0 3 3 1 = 7
            follow 0 0 126 1 = 0
            follow 0 0 125 1 = 6
            follow 0 0 7 1 = 0
            follow 0 0 6 1 = 6
            follow 0 0 0 1 = 0
            """);
        S.run("FOLLOWING: d and 1 is round, and so is d - 1", """
            make 0 3 3 1 = 7
            reel 0 1 14 = 14
            add 0 0 0 0 50 = 7
            add 0 0 7 6 50 = 7
            follow 0 0 6 1 = 0
            follow 0 7 0 1 = 6
            follow 0 0 6 2 = 6
            follow 0 0 125 1 = 0
            follow 0 7 126 1 = 6
            """);
        S.run("FOLLOWING: the amount of U, below 0 too", """
            make 0 3 3 1 = 7
            reel 0 1 14 = 14
            add 0 0 0 3 -50 = 7
            add 0 0 7 4 50 = 7
            follow 0 0 2 1 = 3
            follow 0 0 4 1 = 3
            follow 0 0 3 1 = 3
            follow 0 0 2 2 = 4
            """);
        S.run("FOLLOWING: it goes no further than one shift in a BLOCK", """
            make 0 3 3 1 = 7
            reel 0 1 14 = 14
            add 0 0 0 4 50 = 7
            follow 0 0 2 1 = 2
            follow 0 0 6 1 = 6
            follow 0 0 3 1 = 4
            follow 0 0 5 1 = 4
            """);
        S.run("FOLLOWING: the next BLOCK begins N further on", """
            row 0 ++-
            fill 0 2 -9 9 9 9 9 -9 9 -9 9
            follow 0 0 1 1 = 2
            follow 0 0 1 2 = 0
            follow 0 0 1 3 = 1
            follow 0 0 1 4 = 1
            follow 0 3 1 1 = 0
            """);
        S.run("FOLLOWING: a ROW of one SIGN", """
            row 0 -
            fill 0 2 5 -5 5
            follow 0 0 0 1 = 0
            follow 0 0 126 20 = 0
            """);
        S.run("FOLLOWING: a ROW of two SIGNS", """
            row 0 +-
            fill 0 2 5 -5 -5 5
            follow 0 0 0 2 = 0
            follow 0 0 1 2 = 1
            """);
        S.run("FOLLOWING behind the end: the shift stays", """
            make 0 3 3 1 = 7
            reel 0 1 10 = 10
            add 0 0 0 3 50 = 7
            add 0 0 7 4 50 = 3
            follow 0 0 3 1 = 3
            follow 0 10 3 20 = 3
            follow 0 300 3 20 = 3
            follow 0 0 3 2 = 4   # 50 -50 -50 by SIGNS 4 5 6, then 0
            follow 0 0 3 20 = 4
            """);
        S.run("FOLLOWING: where the REEL is LOST, no FINDING", """
            make 0 7 3 1 = 127
            follow 0 0 126 20 = 126
            follow 0 300 1 20 = 1
            count 3 = 0
            """);
        S.run("FOLLOWING: TONE 0, of X alone", """
            make 0 3 3 1 = 7
            reel 0 1 7 = 7
            reel 1 1 7 = 7
            add 0 0 0 4 5 = 7
            add 0 1 0 2 1000 = 7
            follow 0 0 3 1 = 4
            """);
        S.run("FOLLOWING: X too loud is 0", """
            row 0 +-++
            fill 0 2 10001 10001 10001 -10001
            follow 0 0 0 1 = 0
            fill 0 2 10000 10000 10000 -10000
            follow 0 0 3 1 = 2
            """);
    }

    private static void followingOfLikeOnes() {
        // U at 0 to 7 is 0, -2, 0, 0, 2, 0, 2, -2
        String heard = """
            row 1 +---+++-
            fill 0 2 1 0 1
            """;
        S.run("FOLLOWING: of like ones d, ahead of d and 1", heard + "follow 1 0 6 1 = 6");
        S.run("FOLLOWING: of like ones d, ahead of d - 1", heard + "follow 1 0 7 1 = 7");
        S.run("FOLLOWING: of like ones d - 1, ahead of d and 1", heard + "follow 1 0 5 1 = 4");
        S.run("FOLLOWING: of like ones d - 1, ahead of d and 1, round", heard + "follow 1 0 0 1 = 7");
        S.run("FOLLOWING: d - 1", heard + "follow 1 0 2 1 = 1");
        S.run("FOLLOWING: d and 1", heard + "follow 1 0 3 1 = 4");
        S.run("FOLLOWING: all three alike", """
            row 1 +---+++-
            follow 1 0 5 1 = 5
            follow 1 0 0 20 = 0
            """);
    }

    private static void followingManyBlocks() {
        for (int step = -1; step <= 1; step++) {
            StringBuilder rows = new StringBuilder("make 2 3 3 1 = 7\nreel 0 1 300 = 300\n");
            for (int block = 0; block < 24; block++) {
                int shift = Math.floorMod(5 + step * (block + 1), 7);
                rows.append("add 2 0 ").append(100 + 7 * block).append(' ').append(shift).append(" 500 = 7\n");
            }
            for (int blocks = 1; blocks <= 20; blocks++) {
                int shift = Math.floorMod(5 + step * blocks, 7);
                rows.append("follow 2 100 5 ").append(blocks).append(" = ").append(shift).append('\n');
            }
            S.run("FOLLOWING: BLOCKS 1 to 20, by " + step + " in each", rows + "follow 2 100 5 21 = BAD\n");
        }
    }

    private static void followRefused() {
        S.run("19: ROWS 0 .. 7", """
            row 0 +-
            row 7 +-
            follow -1 0 0 1 = BAD
            follow 8 0 0 1 = BAD
            follow MIN 0 0 1 = BAD
            follow MAX 0 0 1 = BAD
            follow 0 0 1 1 = 1
            follow 7 0 1 1 = 1
            """);
        S.run("19: k 0 to 300", """
            row 0 +-
            follow 0 -1 0 1 = BAD
            follow 0 301 0 1 = BAD
            follow 0 MIN 0 1 = BAD
            follow 0 MAX 0 1 = BAD
            follow 0 0 1 1 = 1
            follow 0 300 1 1 = 1
            """);
        S.run("19: shifts 0 to 126", """
            row 0 +-
            follow 0 0 -1 1 = BAD
            follow 0 0 127 1 = BAD
            follow 0 0 MIN 1 = BAD
            follow 0 0 MAX 1 = BAD
            follow 0 0 0 1 = 0
            follow 0 0 125 1 = 1
            follow 0 0 126 1 = 0
            """);
        S.run("19: BLOCKS 1 to 20", """
            row 0 +-
            follow 0 0 1 0 = BAD
            follow 0 0 1 -1 = BAD
            follow 0 0 1 21 = BAD
            follow 0 0 1 MIN = BAD
            follow 0 0 1 MAX = BAD
            follow 0 0 1 1 = 1
            follow 0 0 1 20 = 1
            """);
        S.run("19: NOT, behind BAD", """
            follow 0 0 0 1 = NOT
            follow 7 300 126 20 = NOT
            follow 0 301 0 1 = BAD
            follow 0 0 127 1 = BAD
            follow 0 0 0 0 = BAD
            follow 0 0 0 21 = BAD
            follow 8 0 0 1 = BAD
            """);
    }
}
