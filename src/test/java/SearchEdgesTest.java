/** Each sentence about what was heard and searches (promises 11 to 15) that names a boundary, with a run of its own. */
public final class SearchEdgesTest {
    private static final Script S = new Script();

    public static void main(String[] args) {
        whatWasHeard();
        tones();
        heardRefused();
        searches();
        searchesOfAllTonesAndShifts();
        sureness();
        doubts();
        searchesRefused();
        S.end();
    }

    private static void whatWasHeard() {
        S.run("X is 0, if below -10000 or above 10000", """
            row 0 +
            fill 0 2 10000 10001 -10000 -10001 MAX MIN
            heard 0 0 0 0 0 = 10000
            heard 0 1 0 0 0 = 0
            heard 0 2 0 0 0 = -10000
            heard 0 3 0 0 0 = 0
            heard 0 4 0 0 0 = 0
            heard 0 5 0 0 0 = 0
            """);
        S.run("Y is 0, if below -10000 or above 10000", """
            row 0 +
            fill 1 2 10000 10001 -10000 -10001 MAX MIN
            heard 0 0 0 0 1 = 10000
            heard 0 1 0 0 1 = 0
            heard 0 2 0 0 1 = -10000
            heard 0 3 0 0 1 = 0
            heard 0 4 0 0 1 = 0
            heard 0 5 0 0 1 = 0
            """);
        S.run("X too loud leaves Y as it is, and Y too loud X", """
            row 0 +
            fill 0 2 10001 7
            fill 1 2 5 -10001
            heard 0 0 0 0 0 = 0
            heard 0 0 0 0 1 = 5
            heard 0 1 0 0 0 = 7
            heard 0 1 0 0 1 = 0
            """);
        S.run("X is 0, where REEL 0 has no item", """
            row 0 +-+
            fill 0 2 5 7
            heard 0 0 0 0 0 = -2
            heard 0 1 0 0 0 = 7
            heard 0 2 0 0 0 = 0
            heard 0 300 0 0 0 = 0
            reel 0 2 0 = 0
            heard 0 0 0 0 0 = 0
            count 3 = 0
            """);
        S.run("Y is 0, where REEL 1 has no item", """
            row 0 +-+
            fill 1 2 5 7
            heard 0 0 0 0 1 = -2
            heard 0 1 0 0 1 = 7
            heard 0 2 0 0 1 = 0
            reel 1 2 0 = 0
            heard 0 0 0 0 1 = 0
            count 3 = 0
            """);
        S.run("X and Y are 0, where a REEL is LOST: no FINDING", """
            row 0 +
            heard 0 0 0 0 0 = 0
            heard 0 0 0 0 1 = 0
            fill 0 2 9
            fill 1 2 8
            lose 0 = 1
            heard 0 0 0 0 0 = 0
            heard 0 0 0 0 1 = 8
            heard 0 0 0 1 0 = 0
            fill 0 2 9
            lose 1 = 1
            heard 0 0 0 0 0 = 9
            heard 0 0 0 0 1 = 0
            count 3 = 0
            """);
        S.run("an item of an earlier, longer REEL is not heard", """
            row 0 ++
            fill 0 2 3 4
            reel 0 2 1 = 1
            heard 0 0 0 0 0 = 0
            put 0 2 0 6 = 1
            heard 0 0 0 0 0 = 6
            """);
        S.run("REELS of any FORM are heard, REELS 2 and 3 are not", """
            row 0 +
            fill 0 0 -128
            fill 1 1 9999
            fill 2 2 50
            fill 3 2 60
            heard 0 0 0 0 0 = -128
            heard 0 0 0 0 1 = 9999
            put 1 1 0 32767 = 1
            heard 0 0 0 0 1 = 0
            """);
        S.run("11: k 0 to 300", """
            row 0 +-
            reel 0 2 300 = 300
            put 0 2 0 3 = 1
            put 0 2 299 4 = 1
            heard 0 0 0 0 0 = 3
            heard 0 298 0 0 0 = -4
            heard 0 299 0 0 0 = 4
            heard 0 300 0 0 0 = 0
            heard 0 301 0 0 0 = MIN
            heard 0 -1 0 0 0 = MIN
            heard 0 MAX 0 0 0 = MIN
            heard 0 MIN 0 0 0 = MIN
            """);
        S.run("11: shifts are round: SIGN i and d", """
            row 0 ++-
            fill 0 2 1 10 100
            heard 0 0 0 0 0 = -89
            heard 0 0 1 0 0 = 91
            heard 0 0 2 0 0 = 109
            heard 0 0 3 0 0 = -89
            heard 0 0 125 0 0 = 109
            heard 0 0 126 0 0 = -89
            """);
        S.run("11: the sums go to N - 1, no further", """
            row 0 +
            row 1 +-
            row 2 ++-
            fill 0 2 1 10 100 1000
            heard 0 1 126 0 0 = 10
            heard 1 1 0 0 0 = -90
            heard 2 1 0 0 0 = -890
            heard 2 0 0 0 0 = -89
            """);
        S.run("11: 127 SIGNS, as loud as can be", """
            make 0 7 3 1 = 127
            reel 0 1 300 = 300
            add 0 0 173 5 1000 = 127
            add 0 0 173 5 1000 = 127
            add 0 0 173 5 1000 = 127
            add 0 0 173 5 1000 = 127
            add 0 0 173 5 1000 = 127
            add 0 0 173 5 1000 = 127
            add 0 0 173 5 1000 = 127
            add 0 0 173 5 1000 = 127
            add 0 0 173 5 1000 = 127
            add 0 0 173 5 1000 = 127
            heard 0 173 5 0 0 = 1270000
            heard 0 173 4 0 0 = -10000
            heard 0 173 126 0 0 = -10000
            """);
    }

    private static void tones() {
        S.run("a quarter makes of X, Y: Y, -X", """
            row 0 ++
            fill 0 2 0 3
            fill 1 2 0 5
            heard 0 0 0 0 0 = 3
            heard 0 0 0 0 1 = 5
            heard 0 0 0 1 0 = 5
            heard 0 0 0 1 1 = -3
            heard 0 0 0 2 0 = -3
            heard 0 0 0 2 1 = -5
            heard 0 0 0 3 0 = -5
            heard 0 0 0 3 1 = 3
            """);
        S.run("four quarters make nothing: TONE 1", """
            row 0 +++++++
            fill 0 2 0 0 0 0 7
            heard 0 0 0 1 0 = 7
            heard 0 0 0 1 1 = 0
            heard 0 1 0 1 0 = 0   # i 3: three quarters
            heard 0 1 0 1 1 = 7
            """);
        S.run("w i quarters, more than four: TONES 2 and 3", """
            row 0 +++++++
            fill 0 2 0 0 0 0 0 0 7
            heard 0 0 0 2 0 = 7   # 12
            heard 0 1 0 2 0 = -7  # 10
            heard 0 0 0 3 0 = -7  # 18
            heard 0 1 0 3 0 = 0   # 15
            heard 0 1 0 3 1 = 7
            heard 0 3 0 3 0 = 0   # 9
            heard 0 3 0 3 1 = -7
            """);
        S.run("turned back by w i quarters: from k on, not from 0", """
            row 0 +
            fill 0 2 1 2 3 4
            fill 1 2 5 6 7 8
            heard 0 1 0 1 0 = 2
            heard 0 1 0 1 1 = 6
            heard 0 2 0 3 0 = 3
            heard 0 3 0 3 1 = 8
            """);
        S.run("11: TONES 0 .. 3", """
            row 0 ++
            fill 0 2 4 2
            heard 0 0 0 -1 0 = MIN
            heard 0 0 0 4 0 = MIN
            heard 0 0 0 MIN 0 = MIN
            heard 0 0 0 MAX 0 = MIN
            heard 0 0 0 0 0 = 6
            heard 0 0 0 3 0 = 4
            heard 0 0 0 3 1 = 2
            """);
    }

    private static void heardRefused() {
        S.run("11: ROWS 0 .. 7", """
            row 0 +
            row 7 -
            fill 0 2 4
            heard -1 0 0 0 0 = MIN
            heard 8 0 0 0 0 = MIN
            heard MIN 0 0 0 0 = MIN
            heard MAX 0 0 0 0 = MIN
            heard 0 0 0 0 0 = 4
            heard 7 0 0 0 0 = -4
            """);
        S.run("11: shifts 0 to 126", """
            row 0 +
            fill 0 2 4
            heard 0 0 -1 0 0 = MIN
            heard 0 0 127 0 0 = MIN
            heard 0 0 MIN 0 0 = MIN
            heard 0 0 MAX 0 0 = MIN
            heard 0 0 0 0 0 = 4
            heard 0 0 126 0 0 = 4
            """);
        S.run("11: what is 0 or 1", """
            row 0 +
            fill 0 2 4
            fill 1 2 5
            heard 0 0 0 0 -1 = MIN
            heard 0 0 0 0 2 = MIN
            heard 0 0 0 0 MIN = MIN
            heard 0 0 0 0 MAX = MIN
            heard 0 0 0 0 0 = 4
            heard 0 0 0 0 1 = 5
            """);
        S.run("11: NOT is the least int too", """
            heard 0 0 0 0 0 = MIN
            heard 7 300 126 3 1 = MIN
            heard 0 301 0 0 0 = MIN
            count 3 = 0
            """);
    }

    private static void searches() {
        S.run("THE SEARCH where nothing was heard: TONE 0, shift 0", """
            make 0 3 3 1 = 7
            search 0 0 = 0
            power 0 0 = 0
            sure 0 0 = 0
            search 0 300 = 0
            power 0 300 = 0
            reel 0 2 0 = 0
            reel 1 2 0 = 0
            search 0 0 = 0
            count 3 = 0
            """);
        S.run("THE SEARCH where nothing was heard, behind one that found", """
            row 0 ++-
            fill 0 2 9 9 9
            search 0 0 = 2001
            search 0 3 = 0
            power 0 0 = 729
            power 0 3 = 0
            doubt 100 = 50
            sure 0 0 = 1
            sure 0 3 = 0
            """);
        S.run("THE SEARCH: of like ones the least TONE", """
            row 0 -
            fill 0 2 3
            fill 1 2 4
            search 0 0 = 0
            power 0 0 = 25
            """);
        S.run("THE SEARCH: the least TONE, though a greater one has the lesser shift", """
            row 0 ++-
            fill 0 2 9 9 9
            search 0 0 = 2001  # by TONE 2: 9 -9 9; SIGNS from 1 on: + - +
            fill 0 2 9 -9 9
            search 0 0 = 1     # by TONE 0; by TONE 2: 9 9 9, U is 9
            fill 0 2 -9 9 9
            search 0 0 = 2     # U is 27; by TONE 2: -9 -9 9, U is -27 at shift 0
            power 0 0 = 729
            fill 0 2 -9 0 -9
            fill 1 2 0 -9 0
            search 0 0 = 1000  # by TONE 1: -9 -9 9, U is -27 at 0; by TONE 3: -9 9 9, U is 27 at 2
            power 0 0 = 729
            """);
        S.run("THE SEARCH: of like ones the least shift", """
            row 0 +-+-
            fill 0 2 5 -5 5 -5
            search 0 0 = 0
            power 0 0 = 400
            fill 0 2 -5 5 -5 5
            search 0 0 = 0
            row 1 ++--++--
            fill 0 2 0 7
            search 1 0 = 0
            """);
        S.run("THE SEARCH: 1000 times the TONE, the greatest POWER below 0 too", """
            row 0 ++-
            fill 0 2 -9 9 -9
            search 0 0 = 1
            fill 0 2 -9 -9 -9
            search 0 0 = 2001
            """);
        S.run("THE SEARCH: POWER is of U and V", """
            row 0 ++-
            fill 0 2 3 -3 3
            fill 1 2 -4 4 -4
            search 0 0 = 1
            power 0 0 = 225
            """);
        S.run("14: POWER, longer than an int", """
            row 0 +++++
            fill 0 2 10000 10000 10000 10000 10000
            power 0 0 = 2500000000
            fill 1 2 10000 10000 10000 10000 10000
            power 0 0 = 5000000000
            """);
        S.run("THE SEARCH: k 0 to 300, items behind the end are 0", """
            row 0 ++-
            reel 0 2 300 = 300
            put 0 2 298 6 = 1
            put 0 2 299 -6 = 1
            search 0 298 = 1
            power 0 298 = 144
            search 0 299 = 0
            power 0 299 = 36
            search 0 300 = 0
            power 0 300 = 0
            """);
    }

    private static void searchesOfAllTonesAndShifts() {
        String[] turned = {"60 80", "-80 60", "-60 -80", "80 -60"};
        String signs = "-++-+--";
        for (int tone = 0; tone < 4; tone++) {
            for (int shift = 0; shift < 7; shift++) {
                StringBuilder rows = new StringBuilder("make 5 3 3 1 = 7\nreel 0 1 300 = 300\nreel 1 1 300 = 300\n");
                for (int i = 0; i < 7; i++) {
                    int sign = signs.charAt((i + shift) % 7) == '-' ? -1 : 1;
                    String[] pair = turned[tone * i % 4].split(" ");
                    rows.append("put 0 1 ").append(293 + i).append(' ').append(sign * Integer.parseInt(pair[0])).append(" = 1\n");
                    rows.append("put 1 1 ").append(293 + i).append(' ').append(sign * Integer.parseInt(pair[1])).append(" = 1\n");
                }
                rows.append("search 5 293 = ").append(1000 * tone + shift).append("\npower 5 293 = 490000\n");
                S.run("THE SEARCH: TONE " + tone + ", shift " + shift, rows.toString());
            }
        }
    }

    private static void sureness() {
        S.run("SURE: 100 times the next greatest is at most DOUBT times the greatest", """
            row 0 ++++-
            fill 0 2 2 2 2 2 -2   # POWER 100; the next is 36, U being -6 at shift 4 by TONE 2 or V so by TONE 1
            power 0 0 = 100
            sure 0 0 = 1
            doubt 36 = 50
            sure 0 0 = 1
            doubt 35 = 36
            sure 0 0 = 0
            doubt 37 = 35
            sure 0 0 = 1
            """);
        S.run("SURE: the next greatest of all others, that may be as great", """
            row 0 -
            fill 0 2 3
            sure 0 0 = 0
            doubt 99 = 50
            sure 0 0 = 0
            doubt 100 = 99
            sure 0 0 = 1
            """);
        S.run("SURE: and that is above 0", """
            row 0 ++-
            doubt 100 = 50
            sure 0 0 = 0
            fill 0 2 1
            sure 0 0 = 1
            sure 0 1 = 0
            sure 0 300 = 0
            doubt 0 = 100
            sure 0 0 = 0
            sure 0 300 = 0
            """);
        S.run("SURE: the next greatest POWER ahead of the greatest", """
            row 0 ++-
            fill 0 2 -1 5 -6
            fill 1 2 -3 5 2    # 100 180 100 - 40 0 160 - 100 20 100 - 160 200 40
            search 0 0 = 3001
            power 0 0 = 200
            doubt 90 = 50
            sure 0 0 = 1
            doubt 89 = 90
            sure 0 0 = 0
            """);
        S.run("SURE: the next greatest POWER behind the greatest", """
            row 0 ++-
            fill 0 2 -4 2 4
            fill 1 2 -4 -5 -5  # 52 20 136 - 146 18 74 - 136 200 52 - 74 170 146
            search 0 0 = 2001
            power 0 0 = 200
            doubt 85 = 50
            sure 0 0 = 1
            doubt 84 = 85
            sure 0 0 = 0
            """);
        S.run("SURE: POWERS longer than an int", """
            row 0 ++++-
            fill 0 2 10000 10000 10000 10000 -10000
            power 0 0 = 2500000000
            doubt 36 = 50
            sure 0 0 = 1
            doubt 35 = 36
            sure 0 0 = 0
            """);
    }

    private static void doubts() {
        S.run("15: DOUBT 0 to 100, what it was", """
            doubt 0 = 50
            doubt 100 = 0
            doubt 50 = 100
            doubt 50 = 50
            count 2 = 50
            """);
        S.run("15: BAD, and DOUBT stays", """
            doubt -1 = BAD
            doubt 101 = BAD
            doubt MIN = BAD
            doubt MAX = BAD
            count 2 = 50
            doubt 100 = 50
            doubt 101 = BAD
            count 2 = 100
            doubt 0 = 100
            doubt -1 = BAD
            count 2 = 0
            """);
    }

    private static void searchesRefused() {
        S.run("12: BAD, then NOT", """
            row 0 +
            row 7 +
            fill 0 2 3
            search -1 0 = BAD
            search 8 0 = BAD
            search MIN 0 = BAD
            search MAX 0 = BAD
            search 0 -1 = BAD
            search 0 301 = BAD
            search 0 MIN = BAD
            search 0 MAX = BAD
            search 5 301 = BAD
            search 5 -1 = BAD
            search 5 300 = NOT
            search 5 0 = NOT
            search 0 0 = 0
            search 7 300 = 0
            """);
        S.run("13: BAD, then NOT", """
            row 0 +
            row 7 +
            fill 0 2 3
            doubt 100 = 50
            sure -1 0 = BAD
            sure 8 0 = BAD
            sure MIN 0 = BAD
            sure MAX 0 = BAD
            sure 0 -1 = BAD
            sure 0 301 = BAD
            sure 0 MIN = BAD
            sure 0 MAX = BAD
            sure 5 301 = BAD
            sure 5 -1 = BAD
            sure 5 300 = NOT
            sure 5 0 = NOT
            sure 0 0 = 1
            sure 7 300 = 0
            """);
        S.run("14: a refusal -x is the least long and x more", """
            row 0 +
            row 7 +
            fill 0 2 3
            power -1 0 = -9223372036854775806
            power 8 0 = -9223372036854775806
            power MIN 0 = -9223372036854775806
            power MAX 0 = -9223372036854775806
            power 0 -1 = -9223372036854775806
            power 0 301 = -9223372036854775806
            power 0 MIN = -9223372036854775806
            power 0 MAX = -9223372036854775806
            power 5 301 = -9223372036854775806
            power 5 -1 = -9223372036854775806
            power 5 300 = -9223372036854775805
            power 5 0 = -9223372036854775805
            power 0 0 = 9
            power 7 300 = 0
            """);
    }
}
