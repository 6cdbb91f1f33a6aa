/** What the tests share: answers that are due, texts that are read, numbers that lie beyond, and the count of faults. */
abstract class Checks {
    static final int NONE = -1, BAD = -2, STATE = -3, FULL = -4;
    static final long NO = -4611686018427387904L;

    private static int wrong = 0;
    private static String sentence = "";

    /** What is tested from here on: a promise's number, or the words of the document. */
    static void sentence(String words) {
        sentence = words;
    }

    static void due(String call, long got, long want) {
        if (got != want) {
            wrong++;
            System.out.println(sentence + ": " + call + " answered " + got + ", due is " + want);
        }
    }

    static void must(boolean so, String what) {
        if (!so) {
            wrong++;
            System.out.println(sentence + ": " + what);
        }
    }

    /** The last line of a test: ends with exit code 1 if anything was wrong. */
    static void end(String test) {
        System.out.println(test + ": " + (wrong == 0 ? "all hold" : wrong + " answers are wrong"));
        if (wrong != 0) System.exit(1);
    }

    static void feed(TilesOfLaw x, String text) {
        for (int k = 0; k < text.length(); k++) x.feed(text.charAt(k));
    }

    static int read(TilesOfLaw x, String text) {
        feed(x, text);
        return x.text();
    }

    /** A floor ruled by a text. */
    static TilesOfLaw ruled(String text) {
        TilesOfLaw x = new TilesOfLaw();
        due("text: " + text, read(x, text), 1);
        x.force(1);
        return x;
    }

    /** A text of these three parts. */
    static String parts(String turns, String tires, String rests) {
        return "turns " + turns + ";tires " + tires + ";rests " + rests + ";";
    }

    /** Numbers beyond least .. most, all of which are refused: just beyond, and as far as can be. */
    static int[] beyond(int least, int most) {
        return new int[] {least - 1, most + 1, Integer.MIN_VALUE, Integer.MAX_VALUE};
    }
}
