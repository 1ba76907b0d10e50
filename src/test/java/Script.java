import java.util.Arrays;
import java.util.Map;

/**
 * Runs told as text, each on a new object. A row is a call and the answer that is due, 'make 0 3 3 1 = 7', or one of
 * 'row 0 +-+' (a row made of these signs, by way of reel 3), 'signs 0 +-+' (they are these), 'fill 0 2 5 -5' (a reel of
 * form 2 with these items), 'items 0 2 5 -5' (they are these). Behind '#' stands why.
 */
final class Script {
    private static final int LAST_CALL = 512;
    private static final Map<String, Long> WORDS = Map.ofEntries(
        Map.entry("BAD", -2L), Map.entry("NOT", -3L), Map.entry("FULL", -4L), Map.entry("NULL", -11L),
        Map.entry("INDEX", -12L), Map.entry("CAST", -13L), Map.entry("STORE", -14L), Map.entry("SIZE", -15L),
        Map.entry("LIKEBAD", -1002L), Map.entry("LIKENOT", -1003L), Map.entry("NOTIME", -1000000L),
        Map.entry("LONGBAD", Long.MIN_VALUE + 2), Map.entry("LONGNOT", Long.MIN_VALUE + 3),
        Map.entry("MIN", (long) Integer.MIN_VALUE), Map.entry("MAX", (long) Integer.MAX_VALUE));

    private int wrong = 0;
    private int runs = 0;
    private int calls = 0;

    /** One sentence of the document and the run that would tell if it were broken. */
    void run(String sentence, String rows) {
        CodeHunt hunt = new CodeHunt();
        runs++;
        calls = 0;
        for (String row : rows.split("\n")) {
            String told = row.replaceAll("#.*", "").strip();
            if (!told.isEmpty()) {
                tell(sentence, told, hunt);
            }
        }
        if (calls > LAST_CALL) {
            wrong++;
            System.out.println(sentence + ": the run has " + calls + " calls");
        }
    }

    /** The end of a test: 1, if an answer was not the one that is due. */
    void end() {
        System.out.println(wrong == 0 ? runs + " runs are as due" : wrong + " answers are not as due");
        if (wrong != 0) {
            System.exit(1);
        }
    }

    private void tell(String sentence, String told, CodeHunt hunt) {
        String[] words = told.split("\\s+");
        switch (words[0]) {
            case "row" -> row(sentence, told, hunt, (int) number(words[1]), words[2]);
            case "signs" -> {
                for (int i = 0; i < words[2].length(); i++) {
                    due(sentence, told + ", " + i, hunt, "sign", sign(words[2], i), (int) number(words[1]), i);
                }
            }
            case "fill" -> fill(sentence, told, hunt, numbers(words, 1, words.length));
            case "items" -> {
                int[] a = numbers(words, 1, words.length);
                for (int i = 2; i < a.length; i++) {
                    due(sentence, told + ", " + (i - 2), hunt, "get", a[i], a[0], a[1], i - 2);
                }
            }
            default -> {
                int equals = Arrays.asList(words).indexOf("=");
                if (equals != words.length - 2) {
                    throw new IllegalArgumentException(sentence + ": " + told);
                }
                due(sentence, told, hunt, words[0], number(words[equals + 1]), numbers(words, 1, equals));
            }
        }
    }

    private void row(String sentence, String told, CodeHunt hunt, int row, String signs) {
        due(sentence, told, hunt, "reel", signs.length(), 3, 2, signs.length());
        for (int i = 0; i < signs.length(); i++) {
            if (sign(signs, i) < 0) {
                due(sentence, told, hunt, "put", 1, 3, 2, i, -1);
            }
        }
        due(sentence, told, hunt, "load", signs.length(), row, 3, signs.length());
    }

    private void fill(String sentence, String told, CodeHunt hunt, int[] a) {
        due(sentence, told, hunt, "reel", a.length - 2, a[0], a[1], a.length - 2);
        for (int i = 2; i < a.length; i++) {
            if (a[i] != 0) {
                due(sentence, told, hunt, "put", 1, a[0], a[1], i - 2, a[i]);
            }
        }
    }

    private void due(String sentence, String told, CodeHunt hunt, String name, long want, int... a) {
        calls++;
        long got = Calls.ask(hunt, name, a);
        if (got != want) {
            wrong++;
            System.out.println(sentence + ": " + told + ": " + name + Arrays.toString(a) + " answered " + got
                + ", due is " + want);
        }
    }

    private static int sign(String signs, int i) {
        return signs.charAt(i) == '-' ? -1 : 1;
    }

    private static long number(String word) {
        return WORDS.containsKey(word) ? WORDS.get(word) : Long.parseLong(word);
    }

    private static int[] numbers(String[] words, int from, int to) {
        return Arrays.stream(words, from, to).mapToInt(word -> Math.toIntExact(number(word))).toArray();
    }
}
