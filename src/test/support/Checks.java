/** What a test of the class is made of: answers that are due, and figures drawn from words. */
abstract class Checks {
    static final int UNKNOWN = -1, OUTSIDE = -2, STATE = -3, FULL = -4, NONE = -9;
    static int promise = 0;
    private static int wrong = 0;

    static void due(String what, long got, long want) {
        if (got != want) fail(what + " answered " + got + ", due is " + want);
    }

    static void fail(String what) {
        wrong++;
        if (wrong <= 200) System.out.println("promise " + promise + ": " + what);
    }

    static void end(String good) {
        System.out.println(wrong == 0 ? good : wrong + " checks failed");
        if (wrong != 0) System.exit(1);
    }

    /** The bytes come behind the text: how long it is then. */
    static int put(HalfAndHalfAgain x, String bytes) {
        int length = 0;
        for (int i = 0; i < bytes.length(); i++) length = x.write(1, bytes.charAt(i));
        return length;
    }

    static HalfAndHalfAgain written(String bytes) {
        HalfAndHalfAgain x = new HalfAndHalfAgain();
        put(x, bytes);
        return x;
    }

    /** A figure from a word, whose blanks are left out and whose end is filled with 0; the text is empty then. */
    static HalfAndHalfAgain draw(HalfAndHalfAgain x, int figure, String word) {
        StringBuilder signs = new StringBuilder(word.replace(" ", ""));
        while (signs.length() < 16) signs.append('0');
        x.wipe();
        due("length of " + word, put(x, signs.toString()), 16);
        due("word of " + word, x.word(figure), Long.bitCount(x.figure(figure)));
        x.wipe();
        return x;
    }

    static HalfAndHalfAgain drawn(String... words) {
        HalfAndHalfAgain x = new HalfAndHalfAgain();
        for (int i = 0; i < words.length; i++) draw(x, i, words[i]);
        return x;
    }

    static long bits(int... cells) {
        long figure = 0;
        for (int cell : cells) figure |= 1L << cell;
        return figure;
    }
}
