/** One check or more for each promise of the document, with answers worked out by hand. */
public final class PromisesTest extends Checks {
    private static final int[] NO_FIGURES = {-1, 8, Integer.MIN_VALUE, Integer.MAX_VALUE};

    public static void main(String[] args) {
        constants();
        newObject();
        write();
        wipe();
        fault();
        word();
        sign();
        figure();
        set();
        size();
        parts();
        holes();
        edges();
        corners();
        convex();
        turn();
        shift();
        form();
        like();
        itself();
        both();
        ahead();
        cut();
        halves();
        split();
        part();
        lay();
        lift();
        piece();
        places();
        place();
        ways();
        first();
        idle();
        grown();
        forms();
        grow();
        keep();
        again();
        count();
        end("all promises are kept");
    }

    private static void constants() {
        due("UNKNOWN", HalfAndHalfAgain.UNKNOWN, -1);
        due("OUTSIDE", HalfAndHalfAgain.OUTSIDE, -2);
        due("STATE", HalfAndHalfAgain.STATE, -3);
        due("FULL", HalfAndHalfAgain.FULL, -4);
        due("NONE", HalfAndHalfAgain.NONE, -9);
    }

    private static void newObject() {
        promise = 1;
        HalfAndHalfAgain x = new HalfAndHalfAgain();
        for (int f = 0; f < 8; f++) due("figure", x.figure(f), 0);
        for (int i = 0; i < 4; i++) due("count " + i, x.count(i), 0);
        due("piece", x.piece(0), 0);
        due("lift", x.lift(), STATE);
        due("again", x.again(0), STATE);
        due("again", x.again(1), STATE);
        // Objects share nothing.
        HalfAndHalfAgain y = new HalfAndHalfAgain();
        y.set(0, 5, true);
        y.lay(0, true);
        y.write(1, '0');
        y.keep(0);
        due("the other's figure", x.figure(0), 0);
        due("the other's pieces", x.count(1), 0);
        due("the other's text", x.count(0), 0);
        due("the other's slot", x.again(0), STATE);
    }

    private static void write() {
        promise = 2;
        HalfAndHalfAgain x = new HalfAndHalfAgain();
        for (int n : new int[] {0, 9, -1, Integer.MIN_VALUE, Integer.MAX_VALUE}) {
            due("write " + n, x.write(n, 0x30), OUTSIDE);
        }
        due("nothing came", x.count(0), 0);
        // "012" of a long whose higher bytes are no signs.
        due("write 3", x.write(3, 0xFFFFFFFFFF303132L), 3);
        due("write 8", x.write(8, 0x3334353637383961L), 11);
        due("write 6 more", x.write(6, 0x303030303030L), FULL);
        due("write 8 more", x.write(8, 0x303030303030L), FULL);
        due("nothing came", x.count(0), 11);
        due("write 5", x.write(5, 0x6263646566L), 16);
        due("no more", x.write(1, '0'), FULL);
        due("outside before full", x.write(0, '0'), OUTSIDE);
        due("outside before full", x.write(9, '0'), OUTSIDE);
        due("word", x.word(0), 32);
        due("order of the bytes", x.figure(0), 0xFEDCBA9876543210L);
    }

    private static void wipe() {
        promise = 3;
        HalfAndHalfAgain x = new HalfAndHalfAgain();
        due("wipe", x.wipe(), 0);
        put(x, "123");
        due("wipe", x.wipe(), 3);
        due("wipe", x.wipe(), 0);
        due("length", x.count(0), 0);
        put(x, "ffffffffffffffff");
        due("wipe", x.wipe(), 16);
        due("nothing of the old text is left", put(x, "0"), 1);
        due("fault", x.fault(), 1);
    }

    private static void fault() {
        promise = 4;
        HalfAndHalfAgain x = new HalfAndHalfAgain();
        due("of the empty text", x.fault(), 0);
        put(x, "0123456789abcde");
        due("too short", x.fault(), 15);
        put(x, "f");
        due("none", x.fault(), NONE);
        for (int wrongByte : new int[] {'0' - 1, '9' + 1, 'a' - 1, 'f' + 1, 'A', 'F', ' ', 0, 128 + '0', 255}) {
            for (int at = 0; at < 16; at++) {
                x = new HalfAndHalfAgain();
                for (int i = 0; i < at; i++) x.write(1, '7');
                x.write(1, wrongByte);
                due("byte " + wrongByte + " at " + at, x.fault(), at);
                if (at < 15) x.write(1, wrongByte);
                due("byte " + wrongByte + " again", x.fault(), at);
            }
        }
        x.wipe();
        put(x, "00g0x");
        due("the first of two", x.fault(), 2);
    }

    private static void word() {
        promise = 5;
        HalfAndHalfAgain x = new HalfAndHalfAgain();
        put(x, "1248000000000008");
        for (int f : NO_FIGURES) due("word " + f, x.word(f), UNKNOWN);
        due("word", x.word(3), 5);
        due("cells", x.figure(3), bits(0, 5, 10, 15, 63));
        due("the text stays", x.count(0), 16);
        due("again", x.word(7), 5);
        due("the last figure", x.figure(7), bits(0, 5, 10, 15, 63));
        x.wipe();
        due("empty text", x.word(3), STATE);
        due("unknown before state", x.word(8), UNKNOWN);
        put(x, "000000000000000");
        due("short text", x.word(3), STATE);
        put(x, "G");
        due("wrong sign", x.word(3), STATE);
        due("refused: as it was", x.figure(3), bits(0, 5, 10, 15, 63));
        x.wipe();
        put(x, "0000000000000000");
        due("the empty word", x.word(3), 0);
        due("is the empty figure", x.figure(3), 0);
    }

    private static void sign() {
        promise = 6;
        HalfAndHalfAgain x = drawn("0123 4567 89ab cdef");
        for (int i = 0; i < 16; i++) due("sign " + i, x.sign(0, i), "0123456789abcdef".charAt(i));
        due("of an empty figure", x.sign(1, 15), '0');
        for (int i : new int[] {-1, 16, Integer.MIN_VALUE, Integer.MAX_VALUE}) due("sign", x.sign(0, i), OUTSIDE);
        for (int f : NO_FIGURES) due("sign", x.sign(f, 0), UNKNOWN);
        due("unknown before outside", x.sign(8, 16), UNKNOWN);
    }

    private static void figure() {
        promise = 7;
        HalfAndHalfAgain x = new HalfAndHalfAgain();
        x.set(7, 63, true);
        due("the sign", x.figure(7), Long.MIN_VALUE);
        due("another", x.figure(6), 0);
        for (int f : NO_FIGURES) due("figure", x.figure(f), 0);
    }

    private static void set() {
        promise = 8;
        HalfAndHalfAgain x = new HalfAndHalfAgain();
        long all = 0;
        for (int cell = 0; cell < 64; cell++) {
            all |= 1L << cell;
            due("has it", x.set(2, cell, true), 1);
            due("has it already", x.set(2, cell, true), 0);
            due("cells", x.figure(2), all);
        }
        due("has it not", x.set(2, 33, false), 1);
        due("has it not already", x.set(2, 33, false), 0);
        due("cells", x.figure(2), ~(1L << 33));
        for (int c : new int[] {-1, 64, Integer.MIN_VALUE, Integer.MAX_VALUE}) due("set", x.set(2, c, false), UNKNOWN);
        for (int f : NO_FIGURES) due("set", x.set(f, 0, true), UNKNOWN);
        due("refused: as it was", x.figure(2), ~(1L << 33));
        due("the others", x.count(3), 63);
    }

    private static void size() {
        promise = 9;
        HalfAndHalfAgain x = drawn("f137 0000 0000 0008", "ffff ffff ffff ffff");
        due("size", x.size(0), 4 + 1 + 2 + 3 + 1);
        due("of all", x.size(1), 64);
        due("of none", x.size(2), 0);
        for (int f : NO_FIGURES) due("size", x.size(f), UNKNOWN);
    }

    private static void parts() {
        promise = 10;
        due("none", drawn("0").parts(0), 0);
        due("all", drawn("ffff ffff ffff ffff").parts(0), 1);
        due("upper and lower", drawn("5").parts(0), 2);
        due("right and left", drawn("a").parts(0), 2);
        due("upper and right", drawn("3").parts(0), 1);
        due("right and lower", drawn("6").parts(0), 1);
        due("lower and left", drawn("c").parts(0), 1);
        due("left and upper", drawn("9").parts(0), 1);
        due("side by side", drawn("0280").parts(0), 1);
        due("one above the other", drawn("0000 0040 0010").parts(0), 1);
        due("turned away", drawn("0820").parts(0), 2);
        due("not round the rim to the right", drawn("0002 8000").parts(0), 2);
        due("not round the rim down", drawn("1000 0000 0000 4000").parts(0), 2);
        due("slanting squares", drawn("f000 0f00").parts(0), 2);
        due("each cell alone", drawn("5555 5555 5555 5555").parts(0), 4 * (1 + 3 + 1));
        due("a long way round", drawn("ffff 000f ffff f000").parts(0), 1);
        for (int f : NO_FIGURES) due("parts", drawn("1").parts(f), UNKNOWN);
    }

    private static void holes() {
        promise = 11;
        due("of none", drawn("0").holes(0), 0);
        due("of all", drawn("ffff ffff ffff ffff").holes(0), 0);
        due("a square", drawn("fff0 f0f0 fff0").holes(0), 1);
        due("squares as far as the rim", drawn("ffff f000 ffff").holes(0), 0);
        due("a cell within", drawn("ffff fbff ffff ffff").holes(0), 1);
        due("a cell with its side at the rim", drawn("feff ffff ffff ffff").holes(0), 0);
        due("a cell with a point at the rim alone", drawn("fbff ffff ffff ffff").holes(0), 1);
        due("each cell at the rim", drawn("6eec 7ffd 7ffd 3bb9").holes(0), 0);
        due("two that touch in a point", drawn("ffff f0ff ff0f ffff").holes(0), 2);
        due("two in one square", drawn("ffff faff ffff ffff").holes(0), 2);
        due("right and left of two squares are one", drawn("ffff fd7f ffff ffff").holes(0), 1);
        due("within slanting edges", drawn("6c00 3900").holes(0), 0);
        due("a slanting hole among four parts", drawn("0000 0930 0c60").holes(0), 1);
        due("a slanting hole in all", drawn("ffff f93f fc6f ffff").holes(0), 1);
        due("figures of many parts have holes too", drawn("0ff0 f00f f00f 0ff0").holes(0), 1);
        for (int f : NO_FIGURES) due("holes", drawn("1").holes(f), UNKNOWN);
    }

    private static void edges() {
        promise = 12;
        HalfAndHalfAgain x = drawn("0", "1", "f", "3", "5", "ffff ffff ffff ffff", "0280", "ffff f0ff ffff ffff");
        int[] straight = {0, 1, 4, 2, 2, 16, 0, 20};
        int[] slanting = {0, 2, 0, 2, 4, 0, 4, 0};
        for (int f = 0; f < 8; f++) {
            due("straight of " + f, x.edges(f, false), straight[f]);
            due("slanting of " + f, x.edges(f, true), slanting[f]);
        }
        for (int f : NO_FIGURES) due("edges", x.edges(f, false), UNKNOWN);
        for (int f : NO_FIGURES) due("edges", x.edges(f, true), UNKNOWN);
        due("rims do not meet", drawn("0002 8000 0000 0000").edges(0, false), 2);
        due("of all cells alone", drawn("5555 5555 5555 5555").edges(0, true), 64);
    }

    private static void cornersAre(String word, int... byEighths) {
        HalfAndHalfAgain x = drawn(word);
        int all = 0;
        for (int e = 1; e <= 7; e++) {
            due("corners of " + e + " eighths of " + word, x.corners(0, e), byEighths[e - 1]);
            all += byEighths[e - 1];
        }
        due("all corners of " + word, x.corners(0, 0), all);
    }

    private static void corners() {
        promise = 13;
        cornersAre("0", 0, 0, 0, 0, 0, 0, 0);
        cornersAre("ffff ffff ffff ffff", 0, 4, 0, 0, 0, 0, 0);
        cornersAre("1", 2, 1, 0, 0, 0, 0, 0);
        cornersAre("0000 0000 0000 0004", 2, 1, 0, 0, 0, 0, 0);
        // Two quarters of a square: the midst has four eighths, which is no corner.
        cornersAre("3", 2, 1, 0, 0, 0, 0, 0);
        // Two over against one another: both end in the midst.
        cornersAre("5", 4, 2, 0, 0, 0, 0, 0);
        // Three quarters of a square.
        cornersAre("7", 2, 2, 0, 0, 0, 1, 0);
        // A slanting square of two cells: two right corners at midsts, two where the side ends.
        cornersAre("0280", 0, 4, 0, 0, 0, 0, 0);
        // A square and a cell that goes on above it.
        cornersAre("0040 00f0", 0, 3, 2, 0, 0, 0, 0);
        // Squares in an angle.
        cornersAre("f000 ff00", 0, 5, 0, 0, 0, 1, 0);
        // Two squares with a cell upon the second: five eighths before it, three at its end.
        cornersAre("0400 ff00", 0, 4, 1, 0, 1, 0, 0);
        // A notch of one cell at the rim: three eighths at each side, six in the midst.
        cornersAre("ffff ffff ffff fbff", 0, 4, 2, 0, 0, 1, 0);
        // The same within: seven eighths at two corners.
        cornersAre("ffff fbff ffff ffff", 0, 4, 0, 0, 0, 1, 2);
        // Squares that touch in a point: two corners there.
        cornersAre("f000 0f00", 0, 8, 0, 0, 0, 0, 0);
        // The eight sectors about a point, every other one.
        cornersAre("2400 1800", 8, 4, 0, 0, 0, 0, 0);
        HalfAndHalfAgain x = drawn("f");
        for (int e : new int[] {-1, 8, Integer.MIN_VALUE, Integer.MAX_VALUE}) due("corners", x.corners(0, e), OUTSIDE);
        for (int f : NO_FIGURES) due("corners", x.corners(f, 0), UNKNOWN);
        due("unknown before outside", x.corners(8, 8), UNKNOWN);
    }

    private static void convex() {
        promise = 14;
        due("the empty one", drawn("0").convex(0), 0);
        due("a cell", drawn("0004").convex(0), 1);
        due("a square", drawn("0000 0f00").convex(0), 1);
        due("all", drawn("ffff ffff ffff ffff").convex(0), 1);
        due("half a square", drawn("9").convex(0), 1);
        due("three quarters", drawn("7").convex(0), 0);
        due("two parts", drawn("f0f0").convex(0), 0);
        due("parts that touch in a point", drawn("f000 0f00").convex(0), 0);
        due("an angle", drawn("f000 ff00").convex(0), 0);
        due("a slanting square", drawn("6c00 3900").convex(0), 1);
        due("a house", drawn("6c00 ff00").convex(0), 1);
        due("a house with eaves", drawn("06c0 ffff").convex(0), 0);
        due("with a hole", drawn("fff0 f0f0 fff0").convex(0), 0);
        due("a ring whose ends touch in a point alone", drawn("fff0 f000 f6f0 fff0").convex(0), 0);
        due("eight corners", drawn("6fc0 fff0 3f90").convex(0), 1);
        for (int f : NO_FIGURES) due("convex", drawn("1").convex(f), UNKNOWN);
    }

    private static void turn() {
        promise = 15;
        // A square with its upper cell in row 0, column 1, and one cell more at its left.
        String start = "0900 0000 0000 0000";
        String[] turned = {
            "0900 0000 0000 0000", "0000 0003 0000 0000", "0000 0000 0000 0060", "0000 0000 c000 0000",
            "0030 0000 0000 0000", "0000 0000 0006 0000", "0000 0000 0000 0c00", "0000 9000 0000 0000",
        };
        for (int t = 0; t < 8; t++) {
            HalfAndHalfAgain x = drawn(start, turned[t]);
            due("turn " + t, x.turn(0, t), t == 0 ? 0 : 1);
            due("turned " + t, x.figure(0), x.figure(1));
        }
        HalfAndHalfAgain x = drawn("0000 0ff0 0ff0 0000");
        for (int t = 0; t < 8; t++) due("comes onto itself", x.turn(0, t), 0);
        due("the empty one", x.turn(1, 5), 0);
        for (int t : new int[] {-1, 8, Integer.MIN_VALUE, Integer.MAX_VALUE}) due("turn", x.turn(0, t), OUTSIDE);
        for (int f : NO_FIGURES) due("turn", x.turn(f, 0), UNKNOWN);
        due("unknown before outside", x.turn(-1, 8), UNKNOWN);
        due("as it was", x.figure(0), 0x00000FF00FF00000L);
    }

    private static void shift() {
        promise = 16;
        HalfAndHalfAgain x = drawn("0000 0370 0000 0000");
        due("right and down", x.shift(0, 1, 2), 5);
        due("there", x.figure(0), drawn("0000 0000 0000 0037").figure(0));
        due("no more to the right", x.shift(0, 1, 0), STATE);
        due("no more down", x.shift(0, 0, 1), STATE);
        due("not even with left", x.shift(0, -1, 1), STATE);
        due("too far left", x.shift(0, -3, 0), STATE);
        due("as it was", x.figure(0), drawn("0000 0000 0000 0037").figure(0));
        due("left and up", x.shift(0, -2, -3), 5);
        due("there", x.figure(0), drawn("3700").figure(0));
        due("no more left", x.shift(0, -1, 0), STATE);
        due("no more up", x.shift(0, 0, -1), STATE);
        due("not at all", x.shift(0, 0, 0), 5);
        due("the empty one", x.shift(1, 3, -3), 0);
        draw(x, 2, "8");
        due("all the way", x.shift(2, 3, 3), 1);
        due("there", x.figure(2), Long.MIN_VALUE);
        due("and back", x.shift(2, -3, -3), 1);
        due("there", x.figure(2), 8);
        for (int far : new int[] {-4, 4, Integer.MIN_VALUE, Integer.MAX_VALUE}) {
            due("x", x.shift(1, far, 0), OUTSIDE);
            due("y", x.shift(1, 0, far), OUTSIDE);
            due("unknown before outside", x.shift(8, far, far), UNKNOWN);
            due("outside before state", x.shift(2, -1, far), OUTSIDE);
        }
        for (int f : NO_FIGURES) due("shift", x.shift(f, 0, 0), UNKNOWN);
    }

    private static void form() {
        promise = 17;
        for (int cell = 0; cell < 64; cell++) {
            HalfAndHalfAgain x = new HalfAndHalfAgain();
            x.set(0, cell, true);
            due("of cell " + cell, x.form(0), 1);
            due("the figure stays", x.figure(0), 1L << cell);
        }
        due("of none", drawn("0").form(0), 0);
        due("of all", drawn("ffff ffff ffff ffff").form(0), -1);
        due("of half a square", drawn("0000 0000 0000 000c").form(0), 3);
        // Lying 0x12 or 0x21, 0x18 and the like; upright all are greater than 16 bits.
        due("of an upright pair", drawn("0000 0000 0001 0001").form(0), drawn("22").form(0));
        due("the least of a lying pair", drawn("22").form(0), 0x22);
        // All but one cell: the least is that without the highest cell it comes to, 62 and 63.
        due("all but cell 0", drawn("efff ffff ffff ffff").form(0), ~(1L << 62));
        due("all but cell 1", drawn("dfff ffff ffff ffff").form(0), Long.MAX_VALUE);
        // Cells in corners far apart: with and without the sign.
        due("without sign", drawn("8000 0000 0000 0008").form(0), drawn("0001 0000 0000 1000").form(0));
        due("not below zero", drawn("1000 0000 0000 0002").form(0) < 0 ? 1 : 0, 0);
        for (int f : NO_FIGURES) due("form", drawn("1").form(f), 0);
    }

    private static void like() {
        promise = 18;
        HalfAndHalfAgain x = drawn("0700 0400", "0000 0000 0003 0009", "0040 00e0", "f000 f000 ff00", "000f 000f 00ff", "0700 0100");
        due("itself", x.like(0, 0), 1);
        due("two empty ones", x.like(6, 7), 1);
        due("an empty one and another", x.like(6, 0), 0);
        due("by a mirror", x.like(3, 4), 1);
        due("by a mirror, the other way", x.like(4, 3), 1);
        due("as many cells, otherwise", x.like(0, 5), 0);
        due("as many cells, otherwise", x.like(0, 2), 0);
        // Turned by half, upper, right, lower are lower, left, upper; what was below is above.
        draw(x, 0, "7000 4000");
        draw(x, 1, "0000 0000 0010 00d0");
        due("turned by half, and shifted", x.like(0, 1), 1);
        for (int f : NO_FIGURES) {
            due("like", x.like(f, 0), UNKNOWN);
            due("like", x.like(0, f), UNKNOWN);
        }
    }

    private static void itself() {
        promise = 19;
        due("the empty one", drawn("0").itself(0), 8);
        due("a square", drawn("0000 00f0").itself(0), 8);
        due("a cell", drawn("0000 0010").itself(0), 2);
        due("half a square", drawn("0300").itself(0), 2);
        due("upper and lower", drawn("0500").itself(0), 4);
        due("three squares in a row", drawn("0fff").itself(0), 4);
        due("an angle", drawn("f000 ff00").itself(0), 2);
        due("a slanting pair of squares", drawn("f000 0f00").itself(0), 4);
        due("an s", drawn("0ff0 ff00").itself(0), 2);
        due("an l", drawn("f000 f000 ff00").itself(0), 1);
        due("four cells that turn", drawn("1200 8400").itself(0), 4);
        for (int f : NO_FIGURES) due("itself", drawn("1").itself(f), UNKNOWN);
    }

    private static void both() {
        promise = 20;
        HalfAndHalfAgain x = drawn("3", "6");
        int[] cells = {3, 1, 1, 2};
        long[] found = {7, 2, 1, 5};
        for (int what = 0; what < 4; what++) {
            due("both " + what, x.both(5, what, 0, 1), cells[what]);
            due("cells", x.figure(5), found[what]);
        }
        due("the other alone", x.both(5, 2, 1, 0), 1);
        due("cells", x.figure(5), 4);
        due("onto itself", x.both(0, 3, 0, 0), 0);
        due("cells", x.figure(0), 0);
        due("onto the other", x.both(1, 0, 1, 5), 2);
        due("cells", x.figure(1), 6);
        for (int what : new int[] {-1, 4, Integer.MIN_VALUE, Integer.MAX_VALUE}) due("both", x.both(1, what, 0, 5), OUTSIDE);
        for (int f : NO_FIGURES) {
            due("both", x.both(f, 0, 0, 0), UNKNOWN);
            due("both", x.both(1, 0, f, 0), UNKNOWN);
            due("unknown before outside", x.both(1, 4, 0, f), UNKNOWN);
        }
        due("refused: as it was", x.figure(1), 6);
    }

    private static void ahead() {
        promise = 21;
        HalfAndHalfAgain x = drawn("ffff ffff ffff ffff");
        for (int i = 0; i <= 4; i++) {
            due("level " + i, x.ahead(0, 0, i), 16 * i);
            due("upright " + i, x.ahead(0, 1, i), 16 * i);
        }
        int[] slanting = {0, 2, 8, 18, 32, 46, 56, 62, 64};
        for (int i = 0; i <= 8; i++) {
            due("falling " + (i - 4), x.ahead(0, 2, i - 4), slanting[i]);
            due("rising " + i, x.ahead(0, 3, i), slanting[i]);
        }
        draw(x, 1, "0000 0f00");
        due("above", x.ahead(1, 0, 1), 0);
        due("above", x.ahead(1, 0, 2), 4);
        due("left", x.ahead(1, 1, 1), 0);
        due("left", x.ahead(1, 1, 2), 4);
        // Row 1, column 2: below and left of the falling line through it are lower and left.
        for (int cell = 0; cell < 4; cell++) {
            HalfAndHalfAgain y = new HalfAndHalfAgain();
            y.set(0, 24 + cell, true);
            due("falling, cell " + cell, y.ahead(0, 2, 1), cell >= 2 ? 1 : 0);
            due("falling before", y.ahead(0, 2, 0), 0);
            due("falling behind", y.ahead(0, 2, 2), 1);
            due("rising, cell " + cell, y.ahead(0, 3, 4), cell == 0 || cell == 3 ? 1 : 0);
            due("rising before", y.ahead(0, 3, 3), 0);
            due("rising behind", y.ahead(0, 3, 5), 1);
        }
        noSuchLines(0);
        for (int f : NO_FIGURES) due("ahead", x.ahead(f, 0, 0), UNKNOWN);
        due("unknown before outside", x.ahead(8, 9, 9), UNKNOWN);
    }

    private static void noSuchLines(int call) {
        int[][] lines = {{-1, 0}, {4, 0}, {Integer.MIN_VALUE, 0}, {Integer.MAX_VALUE, 0}, {0, -1}, {0, 5}, {1, -1}, {1, 5},
            {2, -5}, {2, 5}, {3, -1}, {3, 9}, {0, Integer.MIN_VALUE}, {2, Integer.MIN_VALUE}, {3, Integer.MAX_VALUE}};
        HalfAndHalfAgain x = drawn("f");
        for (int[] line : lines) {
            int got = call == 0 ? x.ahead(0, line[0], line[1])
                    : call == 1 ? x.cut(0, line[0], line[1]) : x.split(0, line[0], line[1], 1);
            due("line " + line[0] + ", " + line[1], got, OUTSIDE);
        }
        due("as it was", x.figure(0), 15);
        due("as it was", x.figure(1), 0);
    }

    private static void cut() {
        promise = 22;
        HalfAndHalfAgain x = drawn("ffff ffff ffff ffff", "f", "5", "f0f0 f0f0 fff0");
        due("at the rim", x.cut(0, 0, 0), 1);
        due("at the rim", x.cut(0, 3, 8), 1);
        due("through the midst", x.cut(0, 0, 2), 2);
        due("through the midst", x.cut(0, 2, 0), 2);
        due("a square, falling", x.cut(1, 2, 0), 2);
        due("a square, rising", x.cut(1, 3, 1), 2);
        due("two cells, between them", x.cut(2, 2, 0), 2);
        due("two cells, not between them", x.cut(2, 0, 1), 2);
        due("a u above its bow", x.cut(3, 0, 2), 3);
        due("a u in the midst", x.cut(3, 1, 1), 2);
        due("none", x.cut(7, 1, 2), 0);
        due("as it was", x.figure(1), 15);
        noSuchLines(1);
        for (int f : NO_FIGURES) due("cut", x.cut(f, 0, 0), UNKNOWN);
        due("unknown before outside", x.cut(8, 9, 9), UNKNOWN);
    }

    private static void halves() {
        promise = 23;
        due("the empty one", drawn("0").halves(0), 0);
        due("all: four through the midst", drawn("ffff ffff ffff ffff").halves(0), 4);
        due("a cell: none", drawn("0000 0010").halves(0), 0);
        due("a square: two slanting", drawn("0000 0f00").halves(0), 2);
        // Two squares side by side: between them.
        due("two squares", drawn("0ff0").halves(0), 1);
        // The first and the last square of a row: 3 upright lines, falling 1 to 3, rising 1 to 3, but both ends cut.
        due("two squares apart", drawn("f00f").halves(0), 3 + 2 + 2);
        for (int f : NO_FIGURES) due("halves", drawn("1").halves(f), UNKNOWN);
    }

    private static void split() {
        promise = 24;
        HalfAndHalfAgain x = drawn("0000 0ff0 0f00 0000", "1");
        due("level", x.split(0, 0, 2, 1), 4);
        due("above stays", x.figure(0), drawn("0000 0ff0").figure(0));
        due("below is another", x.figure(1), drawn("0000 0000 0f00").figure(0));
        due("upright", x.split(0, 1, 2, 1), 4);
        due("left stays", x.figure(0), drawn("0000 0f00").figure(0));
        due("right is another", x.figure(1), drawn("0000 00f0").figure(0));
        due("falling", x.split(0, 2, 0, 1), 2);
        due("below and left stay", x.figure(0), drawn("0000 0c00").figure(0));
        due("the others are another", x.figure(1), drawn("0000 0300").figure(0));
        draw(x, 0, "0000 0f00");
        due("rising", x.split(0, 3, 3, 1), 2);
        due("above and left stay", x.figure(0), drawn("0000 0900").figure(0));
        due("the others are another", x.figure(1), drawn("0000 0600").figure(0));
        due("all of it", x.split(0, 0, 0, 1), 2);
        due("nothing stays", x.figure(0), 0);
        due("all are another", x.figure(1), drawn("0000 0900").figure(0));
        due("none", x.split(1, 0, 4, 2), 0);
        due("all stays", x.figure(1), drawn("0000 0900").figure(0));
        due("both are one", x.split(1, 0, 2, 1), STATE);
        due("outside before state", x.split(1, 0, 5, 1), OUTSIDE);
        due("unknown before outside", x.split(1, 0, 5, 8), UNKNOWN);
        due("as it was", x.figure(1), drawn("0000 0900").figure(0));
        noSuchLines(2);
        for (int f : NO_FIGURES) {
            due("split", x.split(f, 0, 0, 0), UNKNOWN);
            due("split", x.split(0, 0, 0, f), UNKNOWN);
            due("split", x.split(f, 0, 0, f), UNKNOWN);
        }
    }

    private static void part() {
        promise = 25;
        // Parts by the least cell: cell 0 with all that hangs on it, cell 2, then those of row 2.
        HalfAndHalfAgain x = drawn("5000 0000 f0f0 0000", "1");
        due("0", x.part(1, 0, 0), 1);
        due("cells", x.figure(1), 1);
        due("1", x.part(1, 0, 1), 1);
        due("cells", x.figure(1), 4);
        due("2", x.part(1, 0, 2), 4);
        due("cells", x.figure(1), 0xFL << 32);
        due("3", x.part(1, 0, 3), 4);
        due("cells", x.figure(1), 0xFL << 40);
        for (int i : new int[] {4, -1, Integer.MIN_VALUE, Integer.MAX_VALUE}) due("no such part", x.part(1, 0, i), STATE);
        due("none of the empty one", x.part(1, 7, 0), STATE);
        due("refused: as it was", x.figure(1), 0xFL << 40);
        due("the other stays", x.size(0), 10);
        due("of cell 0 alone", drawn("1").part(1, 0, 0), 1);
        due("of itself", x.part(0, 0, 2), 4);
        due("cells", x.figure(0), 0xFL << 32);
        for (int f : NO_FIGURES) {
            due("part", x.part(f, 0, 0), UNKNOWN);
            due("part", x.part(0, f, 0), UNKNOWN);
            due("unknown before state", x.part(f, 0, 99), UNKNOWN);
        }
    }

    private static void lay() {
        promise = 26;
        HalfAndHalfAgain x = drawn("1", "0000 0000 0000 0003");
        due("empty", x.lay(5, true), STATE);
        for (int i = 0; i < 4; i++) due("lay", x.lay(i % 2, i > 1), i);
        due("full", x.lay(0, true), FULL);
        due("state before full", x.lay(5, true), STATE);
        for (int f : NO_FIGURES) due("lay", x.lay(f, true), UNKNOWN);
        due("pieces", x.count(1), 4);
        due("as laid", x.piece(1), 3L << 60);
        x.lift();
        due("a free number", x.lay(0, true), 3);
    }

    private static void lift() {
        promise = 27;
        HalfAndHalfAgain x = drawn("1", "2");
        due("none", x.lift(), STATE);
        x.lay(0, true);
        x.lay(1, true);
        due("lift", x.lift(), 1);
        due("the last is gone", x.piece(1), 0);
        due("the other is left", x.piece(0), 1);
        due("lift", x.lift(), 0);
        due("none", x.lift(), STATE);
        due("the figures stay", x.count(2), 2);
    }

    private static void piece() {
        promise = 28;
        HalfAndHalfAgain x = drawn("0000 0000 0000 0008");
        x.lay(0, true);
        x.set(0, 0, true);
        due("as it was laid", x.piece(0), Long.MIN_VALUE);
        for (int p : new int[] {1, 3, 4, -1, Integer.MIN_VALUE, Integer.MAX_VALUE}) due("none", x.piece(p), 0);
    }

    private static void places() {
        promise = 29;
        HalfAndHalfAgain x = drawn("1", "ffff ffff ffff ffff", "0f00 0f00 0ff0", "21", "f");
        x.lay(0, false);
        x.lay(2, false);
        x.lay(2, true);
        x.lay(4, false);
        due("cells", x.places(0, 1), 64);
        due("squares", x.places(3, 1), 16);
        // Two by three: 6 shifts in each of the four turns, mirrored as many more.
        due("an l", x.places(1, 1), 24);
        due("an l, mirrored too", x.places(2, 1), 48);
        due("in itself", x.places(1, 2), 1);
        x.turn(2, 4);
        due("in its mirror without leave", x.places(1, 2), 0);
        due("in its mirror with leave", x.places(2, 2), 1);
        due("in the empty one", x.places(0, 7), 0);
        x.lift();
        x.lay(3, true);
        // One by two, of eight kinds: the most there can be.
        due("the most", x.places(3, 1), 96);
        x.lift();
        x.lay(3, false);
        due("half of them", x.places(3, 1), 48);
        for (int f : NO_FIGURES) due("places", x.places(0, f), UNKNOWN);
        x.lift();
        for (int p : new int[] {3, 4, -1, Integer.MIN_VALUE, Integer.MAX_VALUE}) due("places", x.places(p, 0), UNKNOWN);
    }

    private static void place() {
        promise = 30;
        HalfAndHalfAgain x = drawn("0000 0020", "0000 0000 0000 00e8", "1");
        x.lay(0, false);
        due("the least", x.place(0, 1), 1L << 57);
        draw(x, 1, "0000 0000 0000 0008");
        due("the sign alone", x.place(0, 1), Long.MIN_VALUE);
        draw(x, 1, "0000 0000 0000 4008");
        due("the sign is greatest", x.place(0, 1), 1L << 50);
        due("in the empty one", x.place(0, 7), 0);
        for (int f : NO_FIGURES) due("place", x.place(0, f), 0);
        for (int p : new int[] {1, 4, -1, Integer.MIN_VALUE, Integer.MAX_VALUE}) due("place", x.place(p, 1), 0);
        draw(x, 3, "f0f0");
        x.lay(3, true);
        due("none", x.place(1, 1), 0);
        x.lift();
        // Without leave the mirrored one is no place, even if it is less.
        draw(x, 4, "21");
        x.lay(4, false);
        draw(x, 5, "ffff ffff ffff ffff");
        long least = x.place(1, 5);
        x.lift();
        x.lay(4, true);
        due("with leave it is less or the same", Long.compareUnsigned(x.place(1, 5), least) <= 0 ? 1 : 0, 1);
    }

    private static void ways() {
        promise = 31;
        HalfAndHalfAgain x = drawn("f", "3", "1", "ff", "0000 0000 0000 00f0");
        due("no pieces, the empty one", x.ways(7), 1);
        due("no pieces, another", x.ways(0), 0);
        x.lay(1, false);
        due("a piece, the empty one", x.ways(7), 0);
        due("too few cells", x.ways(0), 0);
        x.lay(1, true);
        // A square of two halves: along two slanting lines, the pieces either way.
        due("two halves", x.ways(0), 4);
        due("elsewhere", x.ways(4), 4);
        due("too many cells", x.ways(3), 0);
        x.lay(2, false);
        due("too many pieces", x.ways(0), 0);
        x.lay(2, false);
        due("cells do not suffice", x.ways(3), 0);
        for (int i = 0; i < 4; i++) x.lift();
        for (int i = 0; i < 4; i++) x.lay(2, false);
        due("four cells", x.ways(0), 24);
        for (int i = 0; i < 4; i++) x.lift();
        draw(x, 5, "f0f0");
        x.lay(0, false);
        x.lay(5, false);
        draw(x, 6, "fff0");
        due("round another", x.ways(6), 1);
        for (int f : NO_FIGURES) due("ways", x.ways(f), UNKNOWN);
        due("the figure stays", x.figure(6), 0xFFF);
        leave();
        nothingLeftOver();
    }

    private static void leave() {
        HalfAndHalfAgain x = drawn("f000 f000 ff00", "000f 000f 00ff", "f000 f000 ff00");
        x.lay(0, false);
        due("mirrored without leave", x.ways(1), 0);
        due("as laid", x.ways(0), 1);
        x.lift();
        x.lay(0, true);
        due("mirrored with leave", x.ways(1), 1);
    }

    private static void nothingLeftOver() {
        HalfAndHalfAgain x = drawn("1", "f", "2");
        x.lay(0, false);
        due("four places", x.places(0, 1), 4);
        due("none of the places that another call found", x.ways(2), 1);
        due("nor for the first", x.first(2, 0), 2);
    }

    private static void first() {
        promise = 32;
        HalfAndHalfAgain x = drawn("f", "3", "1", "ff", "0000 0000 0000 1008");
        due("no piece", x.first(0, 0), 0);
        x.lay(1, false);
        due("none", x.first(0, 0), 0);
        x.lay(1, false);
        due("the least", x.first(0, 0), 3);
        due("the rest", x.first(0, 1), 12);
        x.lay(2, false);
        due("none any more", x.first(0, 0), 0);
        for (int i = 0; i < 3; i++) x.lift();
        // However the pieces were laid, the least way counts, not the one that is found first.
        draw(x, 7, "000c");
        x.lay(7, false);
        x.lay(7, false);
        due("the least of those found", x.first(0, 0), 3);
        due("the rest", x.first(0, 1), 12);
        x.lay(2, false);
        for (int i = 0; i < 3; i++) x.lift();
        x.lay(2, false);
        x.lay(2, false);
        due("without sign", x.first(4, 0), 1L << 48);
        due("without sign", x.first(4, 1), Long.MIN_VALUE);
        for (int i = 0; i < 2; i++) x.lift();
        // The first piece takes its least place of those that leave a place for the second.
        draw(x, 5, "fff0");
        draw(x, 6, "ff00");
        x.lay(0, false);
        x.lay(6, false);
        due("piece by piece", x.first(5, 0), 0x00F);
        due("piece by piece", x.first(5, 1), 0xFF0);
        for (int i = 0; i < 2; i++) x.lift();
        x.lay(6, false);
        x.lay(0, false);
        due("piece by piece", x.first(5, 0), 0x0FF);
        due("piece by piece", x.first(5, 1), 0xF00);
        draw(x, 7, "f000 f000 ff00");
        x.lift();
        x.lay(6, false);
        due("not the least place at all", x.first(7, 0), 0xF000FL);
        due("the other", x.first(7, 1), 0xFFL << 32);
        for (int f : NO_FIGURES) due("first", x.first(f, 0), 0);
        for (int p : new int[] {2, 4, -1, Integer.MIN_VALUE, Integer.MAX_VALUE}) due("first", x.first(7, p), 0);
    }

    private static void idle() {
        promise = 33;
        HalfAndHalfAgain x = drawn("f", "ff", "5", "3", "b");
        due("no pieces", x.idle(0), 0);
        for (int f = 0; f < 4; f++) x.lay(f, true);
        due("in a square", x.idle(0), 2);
        due("in two squares", x.idle(1), 0);
        due("in three cells", x.idle(4), 3);
        due("in the empty one", x.idle(7), 15);
        due("in two cells", x.idle(2), 1 + 2 + 8);
        for (int f : NO_FIGURES) due("idle", x.idle(f), UNKNOWN);
    }

    private static void grown() {
        promise = 34;
        due("the empty one", drawn("0").grown(0), 0);
        due("all", drawn("ffff ffff ffff ffff").grown(0), 0);
        due("a cell at the rim", drawn("1").grown(0), 2);
        due("a cell within", drawn("0000 0100").grown(0), 3);
        due("a square within", drawn("0000 0f00").grown(0), 4);
        due("a square in a corner", drawn("f").grown(0), 2);
        due("a cell that two have beside them", drawn("5").grown(0), 3);
        due("not round the rim", drawn("000f").grown(0), 2);
        for (int f : NO_FIGURES) due("grown", drawn("1").grown(f), UNKNOWN);
    }

    private static void forms() {
        promise = 35;
        due("the empty one", drawn("0").forms(0), 0);
        due("all", drawn("ffff ffff ffff ffff").forms(0), 0);
        due("a cell at the rim", drawn("1").forms(0), 1);
        due("a cell within", drawn("0000 0100").forms(0), 2);
        due("a square", drawn("0000 0f00").forms(0), 1);
        due("two squares: at an end, at a side", drawn("0000 0ff0").forms(0), 2);
        due("an l of three squares", drawn("0000 0f00 0ff0").forms(0), 4);
        for (int f : NO_FIGURES) due("forms", drawn("1").forms(f), UNKNOWN);
    }

    private static void grow() {
        promise = 36;
        // Cells about the square in row 1, column 1: above 6, left 17, right 27, below 36.
        int[] cells = {6, 17, 27, 36};
        for (int i = 0; i < 4; i++) {
            HalfAndHalfAgain x = drawn("0000 0f00");
            due("grow " + i, x.grow(0, i), cells[i]);
            due("cells", x.figure(0), 0xFL << 20 | 1L << cells[i]);
        }
        HalfAndHalfAgain x = drawn("0000 0f00", "0000 0000 0000 000c");
        for (int i : new int[] {4, -1, Integer.MIN_VALUE, Integer.MAX_VALUE}) due("none such", x.grow(0, i), NONE);
        due("as it was", x.figure(0), 0xFL << 20);
        due("the empty one", x.grow(7, 0), NONE);
        draw(x, 1, "0000 0000 0000 0004");
        due("cell 0 alone is left", drawn("efff ffff ffff ffff").grow(0, 0), 0);
        due("the last cell", x.grow(1, 1), 63);
        due("cells", x.figure(1), 3L << 62);
        for (int f : NO_FIGURES) due("grow", x.grow(f, 0), UNKNOWN);
        for (int f : NO_FIGURES) due("unknown before none", x.grow(f, 99), UNKNOWN);
    }

    private static void keep() {
        promise = 37;
        HalfAndHalfAgain x = drawn("1", "3");
        due("keep", x.keep(0), 2);
        x.set(7, 63, true);
        due("keep", x.keep(1), 3);
        due("keep over it", x.keep(0), 3);
        for (int s : new int[] {-1, 2, Integer.MIN_VALUE, Integer.MAX_VALUE}) due("keep", x.keep(s), UNKNOWN);
        due("nothing is changed", x.count(3), 4);
        due("none filled", new HalfAndHalfAgain().keep(1), 0);
    }

    private static void again() {
        promise = 38;
        HalfAndHalfAgain x = drawn("f000 f000 ff00", "000f 000f 00ff");
        due("none were kept", x.again(0), STATE);
        x.lay(0, true);
        x.keep(0);
        due("none were kept in the other", x.again(1), STATE);
        x.lift();
        x.lay(0, false);
        x.set(2, 9, true);
        x.lay(2, false);
        x.keep(1);
        x.lift();
        x.set(1, 0, true);
        put(x, "abc");
        due("again", x.again(0), 2);
        due("the text stays", x.count(0), 3);
        due("pieces", x.count(1), 1);
        due("with leave", x.places(0, 1), 1);
        due("a figure", x.figure(2), 0);
        due("again the other", x.again(1), 3);
        due("pieces", x.count(1), 2);
        due("the second piece", x.piece(1), 1L << 9);
        due("without leave", x.places(0, 1), 0);
        due("a figure", x.figure(2), 1L << 9);
        x.set(2, 10, true);
        x.lift();
        due("a slot does not change with the figures", x.again(1), 3);
        due("a figure", x.figure(2), 1L << 9);
        due("pieces", x.count(1), 2);
        for (int s : new int[] {-1, 2, Integer.MIN_VALUE, Integer.MAX_VALUE}) due("again", x.again(s), UNKNOWN);
        everyFigureAndPieceAgain();
    }

    private static void everyFigureAndPieceAgain() {
        HalfAndHalfAgain x = new HalfAndHalfAgain();
        for (int f = 0; f < 8; f++) x.set(f, 7 * f, true);
        for (int p = 0; p < 4; p++) x.lay(p, true);
        x.keep(1);
        for (int p = 0; p < 4; p++) x.lift();
        for (int p = 0; p < 4; p++) x.lay(7, true);
        for (int f = 0; f < 8; f++) x.both(f, 3, f, f);
        due("none filled", x.count(2), 0);
        due("again", x.again(1), 8);
        for (int f = 0; f < 8; f++) due("figure " + f, x.figure(f), 1L << 7 * f);
        for (int p = 0; p < 4; p++) due("piece " + p, x.piece(p), 1L << 7 * p);
    }

    private static void count() {
        promise = 39;
        HalfAndHalfAgain x = drawn("f", "0", "3", "ffff ffff ffff ffff");
        put(x, "12345");
        x.lay(0, true);
        x.lay(0, true);
        x.lay(2, true);
        due("bytes", x.count(0), 5);
        due("pieces", x.count(1), 3);
        due("figures", x.count(2), 3);
        due("cells", x.count(3), 70);
        for (int w : new int[] {-1, 4, Integer.MIN_VALUE, Integer.MAX_VALUE}) due("count", x.count(w), OUTSIDE);
        for (int f = 0; f < 8; f++) x.both(f, 0, 3, 3);
        due("all cells of all", x.count(3), 512);
        due("all figures", x.count(2), 8);
    }
}
