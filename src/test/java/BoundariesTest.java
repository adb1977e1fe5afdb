/**
 * The boundary cases that the document's words name, promise by promise: what is refused, which refusal comes first,
 * that it changes nothing, the least and the greatest number taken and the first ones beyond, nothing and all.
 */
public final class BoundariesTest extends States {
    public static void main(String[] args) {
        newObject();
        write();
        wipe();
        fault();
        word();
        sign();
        figure();
        set();
        size();
        parts();
        holes();
        edges();
        corners();
        convex();
        turn();
        shift();
        form();
        like();
        itself();
        both();
        ahead();
        cut();
        halves();
        split();
        part();
        lay();
        lift();
        piece();
        places();
        place();
        ways();
        first();
        idle();
        grown();
        forms();
        grow();
        keep();
        again();
        count();
        end("all boundaries hold");
    }

    private static void pieces(HalfAndHalfAgain x, int figure, int times) {
        for (int i = 0; i < times; i++) x.lay(figure, false);
    }

    /** Whether the side of a cell is one of the board's. */
    private static boolean atRim(int cell) {
        int row = cell / 16, column = cell / 4 % 4, k = cell % 4;
        return k == 0 && row == 0 || k == 1 && column == 3 || k == 2 && row == 3 || k == 3 && column == 0;
    }

    // ---- a new object

    private static void newObject() {
        promise = 1;
        HalfAndHalfAgain x = new HalfAndHalfAgain();
        for (int f = 0; f < 8; f++) {
            due("figure " + f, x.figure(f), 0);
            due("size " + f, x.size(f), 0);
            due("ways " + f + ": no pieces", x.ways(f), 1);
            due("idle " + f + ": no pieces", x.idle(f), 0);
        }
        for (int p = 0; p < 4; p++) {
            due("piece " + p, x.piece(p), 0);
            due("places " + p, x.places(p, 0), UNKNOWN);
        }
        for (int what = 0; what < 4; what++) due("count " + what, x.count(what), 0);
        due("the text is empty", x.fault(), 0);
        due("slot 0", x.again(0), STATE);
        due("slot 1", x.again(1), STATE);
        same("a second object", tell(new HalfAndHalfAgain()), untouched(NEW));
        theLastCall();
    }

    private static void theLastCall() {
        HalfAndHalfAgain x = new HalfAndHalfAgain();
        for (int call = 1; call < 512; call++) x.set(call % 8, call / 8, call % 3 > 0);
        int cells = 0;
        for (int call = 1; call < 512; call++) if (call % 3 > 0) cells++;
        due("the 512th call", x.count(3), cells);
    }

    // ---- words

    private static void write() {
        promise = 2;
        for (int n : beyond(1, 8)) refused("n: " + n, OUTSIDE, x -> x.write(n, 0x3030303030303030L));
        for (int length = 0; length <= 16; length++) {
            for (int n = 1; n <= 8; n++) writeBehind(length, n);
            String bytes = repeated('7', length);
            for (int n : beyond(1, 8)) {
                still(n + " behind " + length, () -> written(bytes), OUTSIDE, x -> x.write(n, '0'));
            }
        }
        for (int n = 1; n <= 8; n++) whichBytes(n);
        everyByte();
        due("bytes of the sign", written("").write(8, -1L), 8);
        HalfAndHalfAgain x = new HalfAndHalfAgain();
        x.write(8, 0xB030303030303030L);
        due("the byte with the sign comes first", x.fault(), 0);
        x.wipe();
        x.write(7, 0xB030303030303030L);
        due("the byte with the sign does not come", x.fault(), 7);
    }

    private static void writeBehind(int length, int n) {
        String bytes = repeated('7', length);
        String what = n + " bytes behind " + length;
        if (length + n > 16) {
            still(what, () -> written(bytes), FULL, x -> x.write(n, 0x3030303030303030L));
            return;
        }
        HalfAndHalfAgain x = written(bytes);
        due(what, x.write(n, 0x3838383838383838L), length + n);
        due("length of " + what, x.count(0), length + n);
        same(what, tell(x), tell(written(bytes + repeated('8', n))));
    }

    private static void whichBytes(int n) {
        HalfAndHalfAgain x = new HalfAndHalfAgain();
        x.write(n, 0x3132333435363738L);
        same("the lowest " + n, tell(x), tell(written("12345678".substring(8 - n))));
        HalfAndHalfAgain y = written("ab");
        y.write(n, 0x3132333435363738L);
        same("the lowest " + n + " behind others", tell(y), tell(written("ab" + "12345678".substring(8 - n))));
    }

    private static void everyByte() {
        for (int b = 0; b < 256; b++) {
            boolean isSign = "0123456789abcdef".indexOf((char) b) >= 0;
            for (long v : new long[] {b, b + 256L, b - 256L, b | SIGN}) {
                HalfAndHalfAgain x = new HalfAndHalfAgain();
                due("write 1 of " + v, x.write(1, v), 1);
                due("fault of byte " + b, x.fault(), isSign ? 1 : 0);
            }
        }
    }

    private static void wipe() {
        promise = 3;
        for (int length = 0; length <= 16; length++) {
            HalfAndHalfAgain x = written(repeated('f', length));
            due("how long it was", x.wipe(), length);
            due("it is empty", x.count(0), 0);
            due("it was empty", x.wipe(), 0);
            due("its fault", x.fault(), 0);
            same("wiped of " + length, tell(x), untouched(NEW));
        }
        HalfAndHalfAgain x = busy();
        due("a word", x.wipe(), 16);
        put(x, "0123456789abcdef");
        same("a word that is written anew", tell(x), untouched(BUSY));
        due("a text with a fault", faulty().wipe(), 5);
        HalfAndHalfAgain y = written(repeated('0', 16));
        y.wipe();
        due("there is room again", y.write(8, 0x3030303030303030L), 8);
        due("there is room again", y.write(8, 0x3030303030303030L), 16);
    }

    private static void fault() {
        promise = 4;
        asks("fault", x -> x.fault());
        due("the empty text", written("").fault(), 0);
        for (int length = 0; length < 16; length++) {
            due("only not at its end", written(repeated('0', length)).fault(), length);
            due("only not at its end", written(repeated('f', length)).fault(), length);
        }
        for (char sign : "0123456789abcdef".toCharArray()) {
            due("all " + sign, written(repeated(sign, 16)).fault(), NONE);
        }
        for (int length = 1; length <= 16; length++) {
            for (int at = 0; at < length; at++) oneFault(length, at);
        }
        due("the first of two", written("000000g00000000g").fault(), 6);
        due("the first of all", written(repeated('g', 16)).fault(), 0);
        due("a fault before the end that fails", written("0000z").fault(), 4);
    }

    private static void oneFault(int length, int at) {
        // Those just beside the signs, the great letters, and what is left of 0 to 9 in other bytes.
        int[] bytes = {0, '0' - 1, '9' + 1, 'A', 'F', 'a' - 1, 'f' + 1, ' ', '0' + 128, 'a' + 128, 127, 128, 255};
        for (int b : bytes) {
            HalfAndHalfAgain x = written(repeated('9', at));
            x.write(1, b);
            put(x, repeated('a', length - at - 1));
            due("byte " + b + " at " + at + " of " + length, x.fault(), at);
        }
    }

    private static void word() {
        promise = 5;
        changesAlone("word", BUSY, x -> x.word(0), 0);
        changesAlone("word", BUSY, x -> x.word(7), 7);
        for (int n : beyond(0, 7)) refused("figure: " + n, UNKNOWN, x -> x.word(n));
        for (int f = 0; f < 8; f++) {
            HalfAndHalfAgain x = written("8000000000000001");
            due("figure " + f, x.word(f), 2);
            due("cells", x.figure(f), bits(3, 60));
            due("no other", x.count(3), 2);
            due("the text stays", x.count(0), 16);
            due("the text stays", x.fault(), NONE);
            int to = f;
            for (int state : new int[] {NEW, CROWDED, FAULTY}) {
                still("a fault, " + STATES[state], () -> make(state), STATE, y -> y.word(to));
            }
        }
        for (int length = 0; length < 16; length++) {
            String bytes = repeated('f', length);
            still("too short: " + length, () -> written(bytes), STATE, x -> x.word(0));
            still("unknown before state", () -> written(bytes), UNKNOWN, x -> x.word(8));
        }
        for (int at = 0; at < 16; at++) {
            String bytes = repeated('0', at) + "F" + repeated('0', 15 - at);
            still("a fault at " + at, () -> written(bytes), STATE, x -> x.word(7));
            still("unknown before state", () -> written(bytes), UNKNOWN, x -> x.word(-1));
        }
        HalfAndHalfAgain x = drawn(ALL);
        put(x, repeated('0', 16));
        due("the empty one", x.word(0), 0);
        due("instead of what it was", x.figure(0), 0);
        x.wipe();
        put(x, repeated('f', 16));
        due("the full one", x.word(0), 64);
        due("all cells", x.figure(0), -1);
        x.wipe();
        put(x, "0000000000000008");
        due("the sign alone", x.word(0), 1);
        due("instead of what it was", x.figure(0), SIGN);
    }

    private static void sign() {
        promise = 6;
        asks("sign", x -> x.sign(7, 15));
        figures("figure", (x, n) -> x.sign(n, 0));
        taken("i", 0, 15, OUTSIDE, (x, n) -> x.sign(0, n));
        taken("i", 0, 15, OUTSIDE, (x, n) -> x.sign(7, n));
        for (int i : beyond(0, 15)) refused("unknown before outside", UNKNOWN, x -> x.sign(8, i));
        HalfAndHalfAgain x = drawn("0123 4567 89ab cdef", ALL, LAST_CELL);
        for (int i = 0; i < 16; i++) {
            due("sign " + i, x.sign(0, i), "0123456789abcdef".charAt(i));
            due("of the full one", x.sign(1, i), 'f');
            due("of cell 63", x.sign(2, i), i == 15 ? '8' : '0');
            due("of the empty one", x.sign(7, i), '0');
        }
    }

    // ---- figures

    private static void figure() {
        promise = 7;
        asks("figure", x -> x.figure(7));
        noFigures("no such one", (x, n) -> x.figure(n));
        HalfAndHalfAgain x = drawn(ALL, ALL, ALL, ALL, ALL, ALL, ALL, ALL);
        for (int f = 0; f < 8; f++) due("the full one", x.figure(f), -1);
        for (int n : beyond(0, 7)) due("no such one beside full ones", x.figure(n), 0);
        due("cell 63", drawn(LAST_CELL).figure(0), SIGN);
        due("all but cell 63", drawn("ffff ffff ffff fff7").figure(0), ~SIGN);
        due("cell 0", drawn("1").figure(0), 1);
    }

    private static void set() {
        promise = 8;
        changesAlone("on", CROWDED, x -> x.set(0, 63, true), 0);
        changesAlone("off", CROWDED, x -> x.set(7, 63, false), 7);
        figures("figure, on", (x, n) -> x.set(n, 63, true));
        figures("figure, off", (x, n) -> x.set(n, 0, false));
        taken("cell, on", 0, 63, UNKNOWN, (x, n) -> x.set(2, n, true));
        taken("cell, off", 0, 63, UNKNOWN, (x, n) -> x.set(3, n, false));
        refused("neither", UNKNOWN, x -> x.set(8, 64, true));
        for (int f : new int[] {0, 7}) {
            for (int cell : new int[] {0, 31, 32, 62, 63}) {
                HalfAndHalfAgain x = new HalfAndHalfAgain();
                due("had it not", x.set(f, cell, false), 0);
                due("has it", x.set(f, cell, true), 1);
                due("that alone", x.figure(f), 1L << cell);
                due("had it", x.set(f, cell, true), 0);
                due("that alone", x.figure(f), 1L << cell);
                due("has it not", x.set(f, cell, false), 1);
                due("none", x.figure(f), 0);
                due("none of the others", x.count(3), 0);
                draw(x, f, ALL);
                due("had it", x.set(f, cell, true), 0);
                due("has it not", x.set(f, cell, false), 1);
                due("all others", x.figure(f), ~(1L << cell));
            }
        }
    }

    private static void size() {
        promise = 9;
        asks("size", x -> x.size(7));
        figures("figure", (x, n) -> x.size(n));
        HalfAndHalfAgain x = drawn("0", ALL, LAST_CELL, "ffff ffff ffff fff7");
        due("the empty one", x.size(0), 0);
        due("the full one", x.size(1), 64);
        due("cell 63", x.size(2), 1);
        due("all but cell 63", x.size(3), 63);
    }

    private static void parts() {
        promise = 10;
        asks("parts", x -> x.parts(5));
        figures("figure", (x, n) -> x.parts(n));
        due("the empty one", drawn("0").parts(0), 0);
        due("the full one", drawn(ALL).parts(0), 1);
        due("the most", drawn(LOOSE).parts(0), 32);
        due("the most, the others", drawn("5a5a a5a5 5a5a a5a5").parts(0), 32);
        for (int cell = 0; cell < 64; cell++) {
            HalfAndHalfAgain x = drawn("0", ALL);
            x.set(0, cell, true);
            x.set(1, cell, false);
            due("cell " + cell, x.parts(0), 1);
            due("all but cell " + cell, x.parts(1), 1);
        }
        due("cell 63 and the one at its left", drawn("0000 0000 0000 0028").parts(0), 1);
        due("cell 63 and one that touches it in a point", drawn("0000 0000 0000 0048").parts(0), 2);
        due("cell 63 and the one over against it", drawn("0000 0000 0000 000a").parts(0), 2);
        due("cells 0 and 63", drawn("1000 0000 0000 0008").parts(0), 2);
        for (int row = 0; row < 3; row++) {
            HalfAndHalfAgain x = new HalfAndHalfAgain();
            x.set(0, 16 * row + 13, true);
            x.set(0, 16 * row + 19, true);
            due("not over the rim from row " + row, x.parts(0), 2);
        }
        for (int column = 0; column < 4; column++) {
            HalfAndHalfAgain x = new HalfAndHalfAgain();
            x.set(0, 4 * column, true);
            x.set(0, 50 + 4 * column, true);
            due("not over the rim in column " + column, x.parts(0), 2);
        }
    }

    private static void holes() {
        promise = 11;
        asks("holes", x -> x.holes(5));
        figures("figure", (x, n) -> x.holes(n));
        due("the empty one", drawn("0").holes(0), 0);
        due("the full one", drawn(ALL).holes(0), 0);
        // 32 cells alone are not of it, 8 of them at the rim.
        due("the most", drawn(LOOSE).holes(0), 24);
        for (int cell = 0; cell < 64; cell++) {
            HalfAndHalfAgain x = drawn(ALL);
            x.set(0, cell, false);
            due("all but cell " + cell, x.holes(0), atRim(cell) ? 0 : 1);
        }
        due("a hole as great as can be", drawn("6eec 7ffd 7ffd 3bb9").holes(0), 0);
        due("a hole as great as can be", drawn("9113 8002 8002 c446").holes(0), 1);
        due("open by one cell at the rim", drawn("9013 8002 8002 c446").holes(0), 0);
        due("a cell at the rim that does not hang on it", drawn("ffff f0ff f0ff faff").holes(0), 1);
        due("a cell at the rim that hangs on it", drawn("ffff f0ff f0ff f8ff").holes(0), 0);
    }

    private static void edges() {
        promise = 12;
        asks("edges", x -> x.edges(5, false));
        asks("edges", x -> x.edges(5, true));
        figures("figure, straight", (x, n) -> x.edges(n, false));
        figures("figure, slanting", (x, n) -> x.edges(n, true));
        edgesAre("the empty one", "0", 0, 0);
        edgesAre("the full one: the rim", ALL, 16, 0);
        edgesAre("as many as can be", LOOSE, 32, 64);
        edgesAre("cell 63", LAST_CELL, 1, 2);
        edgesAre("all but cell 63", "ffff ffff ffff fff7", 17, 2);
        for (int cell = 0; cell < 64; cell++) {
            HalfAndHalfAgain x = drawn("0", ALL);
            x.set(0, cell, true);
            x.set(1, cell, false);
            due("straight of cell " + cell, x.edges(0, false), 1);
            due("slanting of cell " + cell, x.edges(0, true), 2);
            due("straight of all but cell " + cell, x.edges(1, false), atRim(cell) ? 15 : 17);
            due("slanting of all but cell " + cell, x.edges(1, true), 2);
        }
        edgesAre("over the rim to the next row", "0002 8000", 2, 4);
        edgesAre("over the rim from below", "1000 0000 0000 4000", 2, 4);
        edgesAre("cell 63 and the one at its left", "0000 0000 0000 0028", 0, 4);
    }

    private static void edgesAre(String what, String word, int straight, int slanting) {
        due("straight of " + what, drawn(word).edges(0, false), straight);
        due("slanting of " + what, drawn(word).edges(0, true), slanting);
    }

    private static void corners() {
        promise = 13;
        asks("corners", x -> x.corners(5, 0));
        figures("figure", (x, n) -> x.corners(n, 0));
        taken("eighths", 0, 7, OUTSIDE, (x, n) -> x.corners(0, n));
        taken("eighths", 0, 7, OUTSIDE, (x, n) -> x.corners(7, n));
        for (int e : beyond(0, 7)) refused("unknown before outside", UNKNOWN, x -> x.corners(8, e));
        cornersAre("0", 0, 0, 0, 0, 0, 0, 0);
        cornersAre(ALL, 0, 4, 0, 0, 0, 0, 0);
        cornersAre(LAST_CELL, 2, 1, 0, 0, 0, 0, 0);
        cornersAre("1", 2, 1, 0, 0, 0, 0, 0);
        // Without cell 63: seven eighths at its end within, two and one beside its end at the rim, six in the midst.
        cornersAre("ffff ffff ffff fff7", 1, 5, 0, 0, 0, 1, 1);
        // Without cell 0, whose side is at the rim: two eighths at the board's corner become one, and three beside it.
        cornersAre("efff ffff ffff ffff", 1, 3, 1, 0, 0, 1, 0);
        // Four eighths are no corner: at the midst, and at a corner of squares.
        cornersAre("3", 2, 1, 0, 0, 0, 0, 0);
        cornersAre("ff", 0, 4, 0, 0, 0, 0, 0);
        // One of each that can be: five eighths beside a cell upon a square.
        cornersAre("0400 ff00", 0, 4, 1, 0, 1, 0, 0);
        // Each cell alone: two eighths at each of 32 midst arcs, one at each end of 32 sides.
        cornersAre(LOOSE, 64, 32, 0, 0, 0, 0, 0);
        everyPoint();
    }

    /** So it is however the figure is turned: each arc begins at each of the eighths it can. */
    private static void cornersAre(String word, int... byEighths) {
        for (int t = 0; t < 8; t++) {
            HalfAndHalfAgain x = drawn(word);
            x.turn(0, t);
            int all = 0;
            for (int e = 1; e <= 7; e++) {
                due("corners of " + e + " eighths of " + word + " by " + t, x.corners(0, e), byEighths[e - 1]);
                all += byEighths[e - 1];
            }
            due("all corners of " + word + " by " + t, x.corners(0, 0), all);
        }
    }

    /** A square has four corners wherever it is: at each rim, sectors off the board are empty. */
    private static void everyPoint() {
        for (int square = 0; square < 16; square++) {
            HalfAndHalfAgain x = new HalfAndHalfAgain();
            for (int k = 0; k < 4; k++) x.set(0, 4 * square + k, true);
            due("a square", x.corners(0, 2), 4);
            due("a square, all", x.corners(0, 0), 4);
        }
        for (int cell = 0; cell < 64; cell++) {
            HalfAndHalfAgain x = new HalfAndHalfAgain();
            x.set(0, cell, true);
            due("ends of cell " + cell, x.corners(0, 1), 2);
            due("midst of cell " + cell, x.corners(0, 2), 1);
            due("all of cell " + cell, x.corners(0, 0), 3);
        }
    }

    private static void convex() {
        promise = 14;
        asks("convex", x -> x.convex(6));
        figures("figure", (x, n) -> x.convex(n));
        due("the empty one", drawn("0").convex(0), 0);
        due("the full one", drawn(ALL).convex(0), 1);
        due("all but cell 63", drawn("ffff ffff ffff fff7").convex(0), 0);
        for (int cell = 0; cell < 64; cell++) {
            HalfAndHalfAgain x = drawn("0", ALL);
            x.set(0, cell, true);
            x.set(1, cell, false);
            due("cell " + cell, x.convex(0), 1);
            due("all but cell " + cell, x.convex(1), 0);
        }
        convexIs("no more than four eighths", "ff", 1);
        convexIs("three eighths", "0040 00f0", 1);
        convexIs("five eighths", "0400 ff00", 0);
        convexIs("five eighths, slanting", "c000 ffff", 0);
        convexIs("six eighths at a midst", "7", 0);
        convexIs("six eighths at a corner", "f000 ff00", 0);
        convexIs("six eighths, slanting", "0c60 0ff0", 0);
        convexIs("seven eighths", "ffff fbff ffff ffff", 0);
        convexIs("two parts", "5", 0);
        convexIs("two parts far apart", "1000 0000 0000 0008", 0);
        convexIs("two parts that touch in a point", "f000 0f00", 0);
        convexIs("a hole", "fff0 f0f0 fff0", 0);
        convexIs("a slanting hole", "ffff f93f fc6f ffff", 0);
        convexIs("no corner of the board", "6ffc ffff ffff 3ff9", 1);
        convexIs("as slanting as can be", "06c0 6ffc 3ff9 0390", 1);
    }

    private static void convexIs(String what, String word, int want) {
        for (int t = 0; t < 8; t++) {
            HalfAndHalfAgain x = drawn(word);
            x.turn(0, t);
            due(what + " by " + t, x.convex(0), want);
        }
    }

    // ---- turns, forms

    private static void turn() {
        promise = 15;
        changesAlone("turn", CROWDED, x -> x.turn(0, 7), 0);
        changesAlone("turn", BUSY, x -> x.turn(7, 1), 7);
        figures("figure", (x, n) -> x.turn(n, 1));
        taken("t", 0, 7, OUTSIDE, (x, n) -> x.turn(0, n));
        taken("t", 0, 7, OUTSIDE, (x, n) -> x.turn(7, n));
        for (int t : beyond(0, 7)) refused("unknown before outside", UNKNOWN, x -> x.turn(8, t));
        for (int cell = 0; cell < 64; cell++) turnCell(cell);
        int[] lastCell = {63, 48, 1, 14, 49, 2, 15, 60};
        int[] firstCell = {0, 13, 62, 51, 12, 61, 50, 3};
        for (int t = 0; t < 8; t++) {
            int by = t;
            still("the full one, " + t, () -> drawn(ALL), 0, x -> x.turn(0, by));
            still("the empty one, " + t, () -> drawn(ALL), 0, x -> x.turn(7, by));
            HalfAndHalfAgain x = drawn(LAST_CELL, "1");
            due("cell 63 by " + t, x.turn(0, t), t == 0 ? 0 : 1);
            due("cell 63 by " + t, x.figure(0), 1L << lastCell[t]);
            due("cell 0 by " + t, x.turn(1, t), t == 0 ? 0 : 1);
            due("cell 0 by " + t, x.figure(1), 1L << firstCell[t]);
        }
        still("not at all", () -> drawn(ELL), 0, x -> x.turn(0, 0));
        due("upper and lower, a quarter", drawn("0000 0500 0000 0000").turn(0, 1), 1);
        due("rows, by half", drawn("ffff 0000 0000 ffff").turn(0, 2), 0);
        due("rows, mirrored", drawn("ffff 0000 0000 0000").turn(0, 4), 0);
    }

    /** By t less four quarters, 4 to 7 after the mirror; whatever else the figure has, the cell goes there. */
    private static void turnCell(int cell) {
        for (int t = 0; t < 8; t++) {
            int row = cell / 16, column = cell / 4 % 4, k = cell % 4;
            if (t >= 4) {
                column = 3 - column;
                k = (4 - k) % 4;
            }
            for (int quarter = 0; quarter < t % 4; quarter++) {
                int old = row;
                row = column;
                column = 3 - old;
                k = (k + 1) % 4;
            }
            long there = 1L << 16 * row + 4 * column + k;
            HalfAndHalfAgain x = drawn("0", ALL);
            x.set(0, cell, true);
            x.set(1, cell, false);
            due("cell " + cell + " by " + t, x.turn(0, t), there == 1L << cell ? 0 : 1);
            due("cell " + cell + " by " + t, x.figure(0), there);
            due("all but cell " + cell + " by " + t, x.turn(1, t), there == 1L << cell ? 0 : 1);
            due("all but cell " + cell + " by " + t, x.figure(1), ~there);
        }
    }

    private static void shift() {
        promise = 16;
        changesAlone("shift", CROWDED, x -> x.shift(0, 2, 1), 0);
        changesAlone("shift", BUSY, x -> x.shift(7, 0, 1), 7);
        figures("figure", (x, n) -> x.shift(n, 0, 0));
        taken("x", -3, 3, OUTSIDE, (x, n) -> x.shift(0, n, 0));
        taken("y", -3, 3, OUTSIDE, (x, n) -> x.shift(0, 0, n));
        for (int far : beyond(-3, 3)) {
            refused("unknown before outside", UNKNOWN, x -> x.shift(8, far, 0));
            refused("unknown before outside", UNKNOWN, x -> x.shift(-1, 0, far));
            refused("both outside", OUTSIDE, x -> x.shift(0, far, far));
            still("outside before state", () -> drawn(ALL), OUTSIDE, x -> x.shift(0, 3, far));
            still("outside before state", () -> drawn(ALL), OUTSIDE, x -> x.shift(0, far, -3));
        }
        for (int x = -3; x <= 3; x++) for (int y = -3; y <= 3; y++) shiftBy(x, y);
        HalfAndHalfAgain x = drawn("ff00 ff00 ff00");
        due("three by two, to the rim", x.shift(0, 2, 1), 24);
        due("there", x.figure(0), drawn("0000 00ff 00ff 00ff").figure(0));
        still("a step too far", () -> drawn("ff00 ff00 ff00"), STATE, y -> y.shift(0, 3, 1));
        still("a step too far", () -> drawn("ff00 ff00 ff00"), STATE, y -> y.shift(0, 2, 2));
        still("one cell of it would not stay", () -> drawn("fff0 fff8"), STATE, y -> y.shift(0, 1, 0));
        still("one cell of it would not stay", () -> drawn("1000 f000"), STATE, y -> y.shift(0, 1, -1));
    }

    private static void shiftBy(int x, int y) {
        String by = " by " + x + ", " + y;
        still("the empty one" + by, () -> drawn(ALL), 0, z -> z.shift(7, x, y));
        still("the full one" + by, () -> drawn(ALL), x == 0 && y == 0 ? 64 : STATE, z -> z.shift(0, x, y));
        for (int cell = 0; cell < 64; cell++) {
            int row = cell / 16 + y, column = cell / 4 % 4 + x;
            boolean stays = row >= 0 && row < 4 && column >= 0 && column < 4;
            HalfAndHalfAgain z = new HalfAndHalfAgain();
            z.set(7, cell, true);
            due("cell " + cell + by, z.shift(7, x, y), stays ? 1 : STATE);
            due("where it is" + by, z.figure(7), 1L << (stays ? 16 * row + 4 * column + cell % 4 : cell));
        }
    }

    private static void form() {
        promise = 17;
        asks("form", x -> x.form(7));
        noFigures("no such figure", (x, n) -> x.form(n));
        due("the empty one", drawn("0").form(0), 0);
        due("the full one", drawn(ALL).form(0), -1);
        due("cell 63", drawn(LAST_CELL).form(0), 1);
        due("figure 7", draw(new HalfAndHalfAgain(), 7, LAST_CELL).form(7), 1);
        // The eight turns come to cells 63, 48, 1, 14, 49, 2, 15, 60 with 0, 13, 62, 51, 12, 61, 50, 3.
        due("those with the sign are the greatest", drawn("1000 0000 0000 0008").form(0), bits(48, 13));
        // What fails comes to cells 20, 25, 42, 39, 24, 41, 38, 23; all of them have the sign.
        due("all have the sign", drawn("ffff feff ffff ffff").form(0), ~bits(42));
        due("all but cell 63", drawn("ffff ffff ffff fff7").form(0), ~SIGN);
        // By shifts alone: from each place back to the first square.
        for (int square = 0; square < 16; square++) {
            HalfAndHalfAgain x = new HalfAndHalfAgain();
            for (int k = 0; k < 4; k++) x.set(0, 4 * square + k, true);
            due("square " + square, x.form(0), 15);
        }
        due("the last row", drawn("0000 0000 0000 ffff").form(0), 0xFFFF);
        due("the last column", drawn("000f 000f 000f 000f").form(0), 0xFFFF);
    }

    private static void like() {
        promise = 18;
        asks("like", x -> x.like(0, 1));
        figures("figure", (x, n) -> x.like(n, 0));
        figures("other", (x, n) -> x.like(0, n));
        for (int n : beyond(0, 7)) refused("neither", UNKNOWN, x -> x.like(n, n));
        HalfAndHalfAgain x = drawn("0", ALL, LAST_CELL, "1", ELL, MIRRORED_ELL, "ffff ffff ffff fff7", "0");
        due("two empty ones", x.like(0, 7), 1);
        due("the full one and the empty one", x.like(0, 1), 0);
        due("the empty one and the full one", x.like(1, 0), 0);
        for (int f = 0; f < 8; f++) due("one and the same", x.like(f, f), 1);
        due("cells 63 and 0", x.like(2, 3), 1);
        due("mirrored", x.like(4, 5), 1);
        due("the full one and one less", x.like(1, 6), 0);
        draw(x, 7, "dfff ffff ffff ffff");
        due("all but cell 63, all but cell 1", x.like(6, 7), 1);
        draw(x, 7, "efff ffff ffff ffff");
        due("all but cell 63, all but cell 0 at the rim", x.like(6, 7), 0);
        draw(x, 7, "ffff fbff ffff ffff");
        due("all but one in a corner, all but one within", x.like(6, 7), 0);
    }

    private static void itself() {
        promise = 19;
        asks("itself", x -> x.itself(5));
        figures("figure", (x, n) -> x.itself(n));
        due("the empty one", drawn("0").itself(0), 8);
        due("the full one", drawn(ALL).itself(0), 8);
        due("cell 63", drawn(LAST_CELL).itself(0), 2);
        due("all but cell 63", drawn("ffff ffff ffff fff7").itself(0), 1);
        due("the least", drawn(ELL).itself(0), 1);
        due("by no mirror", drawn(LOOSE).itself(0), 4);
        // About the slanting line, with no shift; then each with a shift of its own.
        due("in a corner", drawn("f000 0000 0000 0000").itself(0), 8);
        due("at the other corner", drawn("0000 0000 0000 000f").itself(0), 8);
        due("cells 0 and 63", drawn("1000 0000 0000 0008").itself(0), 1);
    }

    // ---- both, lines

    private static void both() {
        promise = 20;
        changesAlone("both", CROWDED, x -> x.both(0, 3, 0, 7), 0);
        changesAlone("both", CROWDED, x -> x.both(7, 1, 0, 1), 7);
        figures("figure", (x, n) -> x.both(n, 0, 0, 1));
        figures("one", (x, n) -> x.both(0, 0, n, 1));
        figures("other", (x, n) -> x.both(0, 0, 1, n));
        taken("what", 0, 3, OUTSIDE, (x, n) -> x.both(0, n, 0, 7));
        for (int what : beyond(0, 3)) {
            refused("unknown before outside", UNKNOWN, x -> x.both(8, what, 0, 0));
            refused("unknown before outside", UNKNOWN, x -> x.both(0, what, -1, 0));
            refused("unknown before outside", UNKNOWN, x -> x.both(0, what, 0, 8));
            refused("one and the same thrice", OUTSIDE, x -> x.both(0, what, 0, 0));
        }
        bothAre("nothing and nothing", "0", "0", 0, 0, 0, 0);
        bothAre("nothing and all", "0", ALL, -1, 0, 0, -1);
        bothAre("all and nothing", ALL, "0", -1, 0, -1, -1);
        bothAre("all and all", ALL, ALL, -1, -1, 0, 0);
        bothAre("all and cell 63", ALL, LAST_CELL, -1, SIGN, ~SIGN, ~SIGN);
        bothAre("cell 63 and all", LAST_CELL, ALL, -1, SIGN, 0, ~SIGN);
        bothAre("cells 63 and 0", LAST_CELL, "1", SIGN | 1, 0, SIGN, SIGN | 1);
    }

    /** Into a third figure, into the first, into the other; the two that are not told stay. */
    private static void bothAre(String what, String one, String other, long... wanted) {
        for (int w = 0; w < 4; w++) {
            for (int into = 0; into < 3; into++) {
                HalfAndHalfAgain x = drawn(one, other, "0f00");
                long first = x.figure(0), second = x.figure(1), third = x.figure(2);
                due(what + ", " + w, x.both(into, w, 0, 1), Long.bitCount(wanted[w]));
                due(what + ", " + w + ": the first", x.figure(0), into == 0 ? wanted[w] : first);
                due(what + ", " + w + ": the second", x.figure(1), into == 1 ? wanted[w] : second);
                due(what + ", " + w + ": the third", x.figure(2), into == 2 ? wanted[w] : third);
            }
            HalfAndHalfAgain x = drawn(one);
            long alone = w < 2 ? x.figure(0) : 0;
            due("one and the same thrice", x.both(0, w, 0, 0), Long.bitCount(alone));
            due("one and the same thrice", x.figure(0), alone);
        }
    }

    private static int least(int kind) {
        return kind == 2 ? -4 : 0;
    }

    private static int greatest(int kind) {
        return kind == 3 ? 8 : 4;
    }

    private interface LineCall {
        long on(HalfAndHalfAgain x, int figure, int kind, int at);
    }

    /** What the three calls with a line refuse; another figure is 1. */
    private static void lines(LineCall call) {
        figures("figure", (x, n) -> call.on(x, n == 1 ? 0 : n, 0, 2));
        taken("kind", 0, 3, OUTSIDE, (x, n) -> call.on(x, 0, n, 0));
        for (int kind = 0; kind < 4; kind++) {
            int of = kind;
            taken("x of kind " + kind, least(kind), greatest(kind), OUTSIDE, (x, n) -> call.on(x, 0, of, n));
            taken("x of kind " + kind, least(kind), greatest(kind), OUTSIDE, (x, n) -> call.on(x, 7, of, n));
            for (int at : beyond(least(kind), greatest(kind))) {
                refused("unknown before outside: x", UNKNOWN, x -> call.on(x, 8, of, at));
            }
        }
        for (int kind : beyond(0, 3)) {
            refused("unknown before outside: kind", UNKNOWN, x -> call.on(x, -1, kind, 0));
            refused("kind and x", OUTSIDE, x -> call.on(x, 0, kind, 9));
            refused("kind and x", OUTSIDE, x -> call.on(x, 0, kind, -5));
        }
    }

    private static void ahead() {
        promise = 21;
        asks("ahead", x -> x.ahead(5, 3, 4));
        lines((x, figure, kind, at) -> x.ahead(figure, kind, at));
        int[] slanting = {0, 2, 8, 18, 32, 46, 56, 62, 64};
        HalfAndHalfAgain x = drawn(ALL, LAST_CELL, "1");
        // The first x by which a cell is ahead, for each kind.
        int[] lastCell = {4, 4, 0, 7}, firstCell = {1, 1, 1, 1};
        for (int kind = 0; kind < 4; kind++) {
            for (int at = least(kind); at <= greatest(kind); at++) {
                String line = "line " + kind + ", " + at;
                due("the full one, " + line, x.ahead(0, kind, at), kind < 2 ? 16 * at : slanting[at - least(kind)]);
                due("the empty one, " + line, x.ahead(7, kind, at), 0);
                due("cell 63, " + line, x.ahead(1, kind, at), at >= lastCell[kind] ? 1 : 0);
                due("cell 0, " + line, x.ahead(2, kind, at), at >= firstCell[kind] ? 1 : 0);
            }
        }
    }

    private static void cut() {
        promise = 22;
        asks("cut", x -> x.cut(5, 3, 4));
        lines((x, figure, kind, at) -> x.cut(figure, kind, at));
        HalfAndHalfAgain x = drawn(ALL, LAST_CELL, LOOSE, "ffff f00f f00f ffff");
        for (int kind = 0; kind < 4; kind++) {
            for (int at = least(kind); at <= greatest(kind); at++) {
                String line = "line " + kind + ", " + at;
                boolean rim = at == least(kind) || at == greatest(kind);
                due("the full one, " + line, x.cut(0, kind, at), rim ? 1 : 2);
                due("the empty one, " + line, x.cut(7, kind, at), 0);
                due("cell 63, " + line, x.cut(1, kind, at), 1);
                due("cells alone, " + line, x.cut(2, kind, at), 32);
                due("a ring, " + line, x.cut(3, kind, at), rim ? 1 : 2);
            }
        }
        due("both sides", drawn("ffff f00f f00f f00f").cut(0, 0, 1), 3);
        due("both sides", drawn("f00f f00f f00f ffff").cut(0, 0, 3), 3);
    }

    private static void halves() {
        promise = 23;
        asks("halves", x -> x.halves(5));
        figures("figure", (x, n) -> x.halves(n));
        due("the empty one", drawn("0").halves(0), 0);
        due("the full one", drawn(ALL).halves(0), 4);
        for (int cell = 0; cell < 64; cell++) {
            HalfAndHalfAgain x = new HalfAndHalfAgain();
            x.set(0, cell, true);
            due("cell " + cell, x.halves(0), 0);
        }
        due("all but cell 63: as many can't be", drawn("ffff ffff ffff fff7").halves(0), 0);
        // Level 1 to 3, upright 1 to 3, falling 0, rising 1 to 6.
        due("cells 0 and 63", drawn("1000 0000 0000 0008").halves(0), 3 + 3 + 1 + 6);
        // Level 1 to 3, upright 1 to 3, falling -3 to 3, rising 4.
        due("the other corners", drawn("0001 0000 0000 4000").halves(0), 3 + 3 + 7 + 1);
        due("cells alone: four through the midst", drawn(LOOSE).halves(0), 4);
        due("cells alone, one less", drawn("a5a5 5a5a a5a5 5a52").halves(0), 0);
    }

    private static void split() {
        promise = 24;
        changesAlone("split", CROWDED, x -> x.split(0, 0, 2, 7), 0, 7);
        changesAlone("split", CROWDED, x -> x.split(7, 3, 4, 0), 0, 7);
        lines((x, figure, kind, at) -> x.split(figure, kind, at, 1));
        figures("other", (x, n) -> x.split(n == 2 ? 3 : 2, 0, 2, n));
        for (int n : beyond(0, 7)) {
            refused("unknown before state", UNKNOWN, x -> x.split(n, 0, 2, n));
            refused("unknown before outside", UNKNOWN, x -> x.split(0, 0, 5, n));
            refused("unknown before outside", UNKNOWN, x -> x.split(0, 4, 0, n));
        }
        for (int f = 0; f < 8; f++) {
            int one = f;
            refused("both are one", STATE, x -> x.split(one, 0, 2, one));
            refused("outside before state: x", OUTSIDE, x -> x.split(one, 0, 5, one));
            refused("outside before state: kind", OUTSIDE, x -> x.split(one, -1, 0, one));
        }
        for (int kind = 0; kind < 4; kind++) splitAtRims(kind);
        HalfAndHalfAgain x = drawn(ALL, "1");
        due("the empty one", x.split(7, 0, 2, 0), 0);
        due("so the other one is empty", x.figure(0), 0);
        draw(x, 6, "1000 0000 0000 0008");
        due("cell 63 behind", x.split(6, 3, 6, 7), 1);
        due("it is another", x.figure(7), SIGN);
        due("cell 0 stays", x.figure(6), 1);
    }

    private static void splitAtRims(int kind) {
        for (String word : new String[] {"0", LAST_CELL, "1", ALL}) {
            HalfAndHalfAgain x = drawn(word, ELL);
            long cells = x.figure(0);
            due("all stay", x.split(0, kind, greatest(kind), 1), 0);
            due("all stay", x.figure(0), cells);
            due("the other one is empty", x.figure(1), 0);
            due("all become the other", x.split(0, kind, least(kind), 1), Long.bitCount(cells));
            due("none stay", x.figure(0), 0);
            due("the other one has them", x.figure(1), cells);
        }
    }

    private static void part() {
        promise = 25;
        changesAlone("part", BUSY, x -> x.part(7, 5, 31), 7);
        changesAlone("part", BUSY, x -> x.part(0, 7, 0), 0);
        for (int n : beyond(0, 7)) {
            refused("figure: " + n, UNKNOWN, x -> x.part(n, 0, 0));
            refused("other: " + n, UNKNOWN, x -> x.part(0, n, 0));
            refused("neither: " + n, UNKNOWN, x -> x.part(n, n, 0));
            refused("unknown before state", UNKNOWN, x -> x.part(n, 0, -1));
            refused("unknown before state", UNKNOWN, x -> x.part(0, n, 99));
        }
        for (int i : beyond(0, 31)) {
            refused("there is none such: " + i, STATE, x -> x.part(7, 0, i));
            still("of 32 there is none such: " + i, () -> drawn(LOOSE, "1"), STATE, x -> x.part(1, 0, i));
        }
        for (int f = 0; f < 8; f++) partsOfOther(f);
        HalfAndHalfAgain x = drawn(LOOSE);
        long left = x.figure(0);
        for (int i = 0; i < 32; i++) {
            due("part " + i + " of 32", x.part(7, 0, i), 1);
            due("the least cell left", x.figure(7), left & -left);
            left &= left - 1;
        }
        due("the last of them is cell 63", x.figure(7), SIGN);
        for (int cell = 0; cell < 64; cell++) {
            HalfAndHalfAgain y = new HalfAndHalfAgain();
            y.set(6, cell, true);
            due("cell " + cell, y.part(7, 6, 0), 1);
            due("cell " + cell, y.figure(7), 1L << cell);
            due("cell " + cell + " alone", y.part(7, 6, 1), STATE);
        }
        still("none of the empty one", () -> drawn(ALL), STATE, y -> y.part(0, 1, 0));
        still("all of the full one", () -> drawn(ALL), 64, y -> y.part(0, 0, 0));
        still("one alone", () -> drawn(ALL), STATE, y -> y.part(0, 0, 1));
        due("the last part of itself", x.part(0, 0, 31), 1);
        due("the last part of itself", x.figure(0), SIGN);
        // A ring from cell 0 to cell 63 comes before the cell within it.
        HalfAndHalfAgain z = drawn("ffff f20f f00f ffff");
        due("the ring", z.part(1, 0, 0), 48);
        due("within it", z.part(1, 0, 1), 1);
        due("within it", z.figure(1), bits(21));
        due("none such", z.part(1, 0, 2), STATE);
    }

    private static void partsOfOther(int other) {
        HalfAndHalfAgain x = draw(new HalfAndHalfAgain(), other, "5");
        for (int f = 0; f < 8; f++) {
            if (f == other) continue;
            due("the first", x.part(f, other, 0), 1);
            due("the first", x.figure(f), 1);
            due("the last", x.part(f, other, 1), 1);
            due("the last", x.figure(f), 4);
            due("none such", x.part(f, other, 2), STATE);
            due("none such", x.part(f, other, -1), STATE);
            due("as it was", x.figure(f), 4);
            due("the other stays", x.figure(other), 5);
        }
    }

    // ---- pieces

    private static void lay() {
        promise = 26;
        for (int n : beyond(0, 7)) {
            refused("figure: " + n, UNKNOWN, x -> x.lay(n, true));
            refused("figure: " + n, UNKNOWN, x -> x.lay(n, false));
        }
        for (int f = 0; f < 8; f++) {
            int of = f;
            still("it is empty: " + f, () -> new HalfAndHalfAgain(), STATE, x -> x.lay(of, true));
            still("4: " + f, () -> make(CROWDED), FULL, x -> x.lay(of, false));
            still("4: " + f, () -> make(CROWDED), FULL, x -> x.lay(of, true));
            still("state before full: " + f, () -> emptied(of), STATE, x -> x.lay(of, true));
            HalfAndHalfAgain x = draw(new HalfAndHalfAgain(), f, LAST_CELL);
            for (int p = 0; p < 4; p++) {
                due("its number", x.lay(f, p % 2 == 0), p);
                due("how many", x.count(1), p + 1);
                due("as it is", x.piece(p), SIGN);
            }
            due("no fifth", x.lay(f, true), FULL);
            due("no fifth", x.count(1), 4);
        }
        HalfAndHalfAgain x = drawn(ALL, ELL, MIRRORED_ELL);
        due("the full one", x.lay(0, false), 0);
        due("the full one", x.piece(0), -1);
        due("the figure stays", x.figure(0), -1);
        x.lift();
        x.lay(1, true);
        x.lift();
        x.lay(1, false);
        due("the leave is the new one's", x.places(0, 2), 0);
        x.lift();
        x.lay(1, true);
        due("the leave is the new one's", x.places(0, 2), 1);
    }

    private static HalfAndHalfAgain emptied(int figure) {
        HalfAndHalfAgain x = crowded();
        x.both(figure, 3, figure, figure);
        return x;
    }

    private static void lift() {
        promise = 27;
        still("there is none", () -> new HalfAndHalfAgain(), STATE, x -> x.lift());
        still("there is none, beside figures", () -> drawn(ALL, ELL), STATE, x -> x.lift());
        HalfAndHalfAgain y = busy();
        y.lay(3, true);
        y.lay(4, false);
        due("one is gone", y.lift(), 3);
        due("both are gone", y.lift(), 2);
        same("laid and lifted", tell(y), untouched(BUSY));
        HalfAndHalfAgain x = crowded();
        for (int left = 3; left >= 0; left--) {
            due("how many are left", x.lift(), left);
            due("how many are left", x.count(1), left);
            for (int p = 0; p < 4; p++) due("piece " + p, x.piece(p) == 0 ? 0 : 1, p < left ? 1 : 0);
        }
        due("there is none any more", x.lift(), STATE);
        due("there is none any more", x.count(1), 0);
        due("the figures stay", x.count(2), 8);
    }

    private static void piece() {
        promise = 28;
        for (int p = 0; p < 4; p++) {
            int of = p;
            asks("piece " + p, x -> x.piece(of));
        }
        for (int p : beyond(0, 3)) refused("there is none: " + p, 0, x -> x.piece(p));
        for (int laid = 0; laid <= 4; laid++) {
            HalfAndHalfAgain x = drawn("1", LAST_CELL, ALL, ELL);
            long[] figures = {1, SIGN, -1, x.figure(3)};
            for (int p = 0; p < laid; p++) x.lay(p, true);
            for (int f = 0; f < 4; f++) x.both(f, 3, f, f);
            for (int p = 0; p < 4; p++) due("piece " + p + " of " + laid, x.piece(p), p < laid ? figures[p] : 0);
        }
        HalfAndHalfAgain x = drawn("0000 0000 0000 000c");
        x.lay(0, true);
        due("as it was laid, not its form", x.piece(0), 3L << 62);
    }

    private static void places() {
        promise = 29;
        asks("places", x -> x.places(0, 7));
        for (int n : beyond(0, 7)) refused("figure: " + n, UNKNOWN, x -> x.places(0, n));
        for (int p : beyond(0, 3)) refused("piece: " + p, UNKNOWN, x -> x.places(p, 0));
        for (int laid = 0; laid <= 4; laid++) {
            HalfAndHalfAgain x = drawn("1", ALL);
            pieces(x, 0, laid);
            for (int p = 0; p < 4; p++) {
                due("piece " + p + " of " + laid, x.places(p, 1), p < laid ? 64 : UNKNOWN);
                due("in the empty one", x.places(p, 7), p < laid ? 0 : UNKNOWN);
                for (int n : beyond(0, 7)) due("neither", x.places(p, n), UNKNOWN);
            }
        }
        placesAre("the full one in itself", ALL, ALL, 1, 1);
        placesAre("the full one in one less", ALL, "ffff ffff ffff fff7", 0, 0);
        placesAre("cell 63 in itself", LAST_CELL, LAST_CELL, 1, 1);
        placesAre("cell 63 in all", LAST_CELL, ALL, 64, 64);
        placesAre("cell 63 in all but itself", LAST_CELL, "ffff ffff ffff fff7", 63, 63);
        placesAre("the most", "21", ALL, 48, 96);
        placesAre("an l in its mirror", ELL, MIRRORED_ELL, 0, 1);
        placesAre("one that is its own mirror", "f000 f000 fff0", ALL, 16, 16);
        placesAre("as wide as the board", "f00f", ALL, 8, 8);
        placesAre("as wide and high as the board", "1000 0000 0000 0008", ALL, 4, 8);
    }

    private static void placesAre(String what, String piece, String figure, int without, int with) {
        HalfAndHalfAgain x = drawn(piece, figure);
        x.lay(0, false);
        x.lay(0, true);
        due(what + ", without leave", x.places(0, 1), without);
        due(what + ", with leave", x.places(1, 1), with);
        due(what + ", idle", x.idle(1), (without == 0 ? 1 : 0) + (with == 0 ? 2 : 0));
    }

    private static void place() {
        promise = 30;
        asks("place", x -> x.place(0, 7));
        noFigures("no such figure", (x, n) -> x.place(0, n));
        for (int p : beyond(0, 3)) refused("no such piece: " + p, 0, x -> x.place(p, 7));
        for (int laid = 0; laid <= 4; laid++) {
            HalfAndHalfAgain x = drawn("1", ALL, LAST_CELL);
            pieces(x, 0, laid);
            for (int p = 0; p < 4; p++) {
                due("in all", x.place(p, 1), p < laid ? 1 : 0);
                due("in cell 63", x.place(p, 2), p < laid ? SIGN : 0);
                due("in the empty one", x.place(p, 7), 0);
            }
        }
        placeIs("the full one in itself", ALL, ALL, -1);
        placeIs("the full one in one less", ALL, "ffff ffff ffff fff7", 0);
        placeIs("the sign is the greatest", "1", "0000 0000 0000 0018", bits(56));
        placeIs("with two cells and the sign", "3", "c000 0000 0000 000c", bits(2, 3));
        placeIs("two that both have the sign", "1000 0000 0000 0008", "1000 0000 0000 0008", SIGN | 1);
        placeIs("the greater has fewer cells before it", "3", "0000 0000 0000 000e", bits(61, 62));
        // With leave the mirrored one in the upper left corner is the least.
        HalfAndHalfAgain x = drawn("0000 0000 0000 0012", ALL);
        x.lay(0, false);
        x.lay(0, true);
        due("with leave", Long.compareUnsigned(x.place(1, 1), x.place(0, 1)) <= 0 ? 1 : 0, 1);
        HalfAndHalfAgain y = drawn(ELL, MIRRORED_ELL);
        y.lay(0, false);
        y.lay(0, true);
        due("without leave: none", y.place(0, 1), 0);
        due("with leave: the mirrored one", y.place(1, 1), y.figure(1));
    }

    private static void placeIs(String what, String piece, String figure, long want) {
        HalfAndHalfAgain x = drawn(piece, figure);
        x.lay(0, false);
        due(what, x.place(0, 1), want);
    }

    private static void ways() {
        promise = 31;
        asks("ways", x -> x.ways(7));
        figures("figure", (x, n) -> x.ways(n));
        HalfAndHalfAgain x = drawn("1", LAST_CELL, ALL, ELL);
        for (int f = 0; f < 8; f++) due("no pieces, figure " + f, x.ways(f), f < 4 ? 0 : 1);
        x.lay(1, false);
        due("a piece, the empty one", x.ways(7), 0);
        due("cell 63 upon itself", x.ways(1), 1);
        due("cell 63 upon cell 0", x.ways(0), 1);
        due("a cell too few", x.ways(2), 0);
        x.lift();
        due("no pieces any more", x.ways(7), 1);
        due("no pieces any more", x.ways(1), 0);
        waysAre("the full one by itself", ALL, 1, new String[] {ALL});
        waysAre("twice the full one", ALL, 0, new String[] {ALL, ALL});
        waysAre("a cell too few", ALL, 0, new String[] {"ffff ffff ffff fff7"});
        waysAre("one less by four turns, and cell 63", ALL, 4, new String[] {"ffff ffff ffff fff7", LAST_CELL});
        waysAre("four cells", "0000 0000 0000 000f", 24, new String[] {"1", "2", "4", LAST_CELL});
        waysAre("four rows", ALL, 48, new String[] {"ffff", "ffff", "ffff", "ffff"});
        waysAre("four columns", ALL, 48, new String[] {"f000 f000 f000 f000", "ffff", "ffff", "ffff"});
        waysAre("four great squares", ALL, 24, new String[] {"ff00 ff00", "ff00 ff00", "ff00 ff00", "ff00 ff00"});
        waysAre("one too small", ALL, 0, new String[] {"ff00 ff00", "ff00 ff00", "ff00 ff00", "ff00 7f00"});
        waysAre("three cells are one too few", "0000 0000 0000 000f", 0, new String[] {"1", "1", "1"});
        waysAre("four cells are one too many", "0000 0000 0000 000e", 0, new String[] {"1", "1", "1", "1"});
        waysAre("as many cells, otherwise", "f", 0, new String[] {"6c"});
    }

    private static void waysAre(String what, String figure, int want, String[] pieces) {
        HalfAndHalfAgain x = drawn(figure);
        for (String piece : pieces) {
            draw(x, 1, piece);
            x.lay(1, false);
        }
        due(what, x.ways(0), want);
        for (int p = 0; p < 4; p++) {
            due(what + ": a first one", x.first(0, p) == 0 ? 0 : 1, want > 0 && p < pieces.length ? 1 : 0);
        }
    }

    private static void first() {
        promise = 32;
        asks("first", x -> x.first(7, 0));
        noFigures("no such figure", (x, n) -> x.first(n, 0));
        for (int p : beyond(0, 3)) refused("no such piece: " + p, 0, x -> x.first(7, p));
        HalfAndHalfAgain x = drawn("0000 0000 0000 000f", LAST_CELL, ALL, "ffff");
        for (int f = 0; f < 8; f++) for (int p = 0; p < 4; p++) due("no pieces", x.first(f, p), 0);
        for (int laid = 1; laid <= 4; laid++) {
            x.lay(1, false);
            for (int p = 0; p < 4; p++) {
                due("in the empty one", x.first(7, p), 0);
                due("in the full one: none", x.first(2, p), 0);
                due(laid + " in four cells", x.first(0, p), laid < 4 ? 0 : 1L << 60 + p);
                due(laid + " in cell 63", x.first(1, p), laid == 1 && p == 0 ? SIGN : 0);
            }
            for (int p : beyond(0, 3)) due("no such piece", x.first(0, p), 0);
            for (int f : beyond(0, 7)) due("no such figure", x.first(f, 0), 0);
        }
        for (int p = 0; p < 4; p++) x.lift();
        pieces(x, 3, 4);
        for (int p = 0; p < 4; p++) due("four rows, not columns", x.first(2, p), 0xFFFFL << 16 * p);
        for (int p = 0; p < 4; p++) x.lift();
        x.lay(2, true);
        due("the full one", x.first(2, 0), -1);
        // The first piece by its least place, though the second would lie less without the sign.
        HalfAndHalfAgain y = drawn("1", "0000 0000 0000 0018");
        pieces(y, 0, 2);
        due("the least without sign", y.first(1, 0), bits(56));
        due("the sign is left", y.first(1, 1), SIGN);
        leastHoweverLaid();
    }

    /** Half a square, laid by each turn: a way that is found first may not be the first one. */
    private static void leastHoweverLaid() {
        for (int t = 0; t < 8; t++) {
            HalfAndHalfAgain x = drawn("3", "0000 0000 0000 000f", "0000 0000 0000 f00f");
            x.turn(0, t);
            x.lay(0, true);
            x.lay(0, false);
            due("half a square by " + t, x.first(1, 0), 3L << 60);
            due("the other half by " + t, x.first(1, 1), 3L << 62);
            pieces(x, 0, 2);
            long[] wanted = {3L << 48, 3L << 50, 3L << 60, 3L << 62};
            for (int p = 0; p < 4; p++) due("half " + p + " of four by " + t, x.first(2, p), wanted[p]);
            due("four halves by " + t, x.ways(2), 24 * 4);
        }
        HalfAndHalfAgain y = drawn("1", "f", "2");
        y.lay(0, false);
        due("places in a square", y.places(0, 1), 4);
        due("none of them is left over", y.ways(2), 1);
        due("none of them is left over", y.first(2, 0), 2);
    }

    private static void idle() {
        promise = 33;
        asks("idle", x -> x.idle(7));
        figures("figure", (x, n) -> x.idle(n));
        HalfAndHalfAgain x = drawn("1", "f", "ff", ALL, LAST_CELL, "ffff ffff ffff fff7");
        for (int laid = 0; laid <= 4; laid++) {
            int all = (1 << laid) - 1;
            due(laid + " in the empty one", x.idle(7), all);
            due(laid + " in the full one", x.idle(3), 0);
            due(laid + " in cell 63", x.idle(4), all & ~1);
            due(laid + " in a square", x.idle(1), all & ~3);
            due(laid + " in two squares", x.idle(2), all & ~7);
            due(laid + " in one less than all", x.idle(5), all & ~7);
            if (laid < 4) x.lay(laid, false);
        }
        for (int laid = 3; laid >= 0; laid--) {
            x.lift();
            due(laid + " left, in the empty one", x.idle(7), (1 << laid) - 1);
        }
    }

    // ---- growth

    private static void grown() {
        promise = 34;
        asks("grown", x -> x.grown(7));
        figures("figure", (x, n) -> x.grown(n));
        due("the empty one", drawn("0").grown(0), 0);
        due("the full one", drawn(ALL).grown(0), 0);
        due("the most", drawn(LOOSE).grown(0), 32);
        due("cell 63", drawn(LAST_CELL).grown(0), 3);
        for (int cell = 0; cell < 64; cell++) {
            HalfAndHalfAgain x = drawn("0", ALL);
            x.set(0, cell, true);
            x.set(1, cell, false);
            due("cell " + cell, x.grown(0), atRim(cell) ? 2 : 3);
            due("all but cell " + cell, x.grown(1), 1);
        }
        due("what is no neighbour", drawn("ffff ffff ffff 0000").grown(0), 4);
    }

    private static void forms() {
        promise = 35;
        asks("forms", x -> x.forms(7));
        figures("figure", (x, n) -> x.forms(n));
        due("the empty one", drawn("0").forms(0), 0);
        due("the full one", drawn(ALL).forms(0), 0);
        // With 62 and with 60 they are like, with 57 they are not.
        due("cell 63", drawn(LAST_CELL).forms(0), 2);
        due("all but cell 63", drawn("ffff ffff ffff fff7").forms(0), 1);
        due("all but cell 0", drawn("efff ffff ffff ffff").forms(0), 1);
        // 32 cells, four of which are always like by the turns of the figure.
        due("the most cells", drawn(LOOSE).forms(0), 8);
        due("a figure that is its mirror: at each of two sides", drawn("ffff ffff ffff").forms(0), 2);
        due("a figure that is not: at each of its three ends", drawn("ffff ffff ffff ff00").forms(0), 3);
        due("one form alone", drawn("0000 0ff0 0ff0 0000").forms(0), 1);
    }

    private static void grow() {
        promise = 36;
        changesAlone("grow", CROWDED, x -> x.grow(0, 0), 0);
        changesAlone("grow", BUSY, x -> x.grow(7, 0), 7);
        for (int n : beyond(0, 7)) {
            refused("figure: " + n, UNKNOWN, x -> x.grow(n, 0));
            for (int i : new int[] {-1, 64, LOW, HIGH}) refused("unknown before none", UNKNOWN, x -> x.grow(n, i));
        }
        for (int i : beyond(0, 63)) {
            for (int f = 0; f < 8; f += 7) {
                int of = f;
                refused("none such: " + i, NONE, x -> x.grow(of, i));
            }
        }
        for (int i = -1; i < 65; i++) {
            int at = i;
            still("the empty one, " + i, () -> drawn(ALL), NONE, x -> x.grow(7, at));
            still("the full one, " + i, () -> drawn(ALL), NONE, x -> x.grow(0, at));
        }
        for (int f = 0; f < 8; f++) growAll(f);
        int[] aboutLastCell = {57, 60, 62};
        for (int i = 0; i < 3; i++) {
            HalfAndHalfAgain x = drawn(LAST_CELL);
            due("about cell 63, " + i, x.grow(0, i), aboutLastCell[i]);
            due("with cell 63", x.figure(0), SIGN | 1L << aboutLastCell[i]);
        }
        still("about cell 63, none such", () -> drawn(LAST_CELL), NONE, x -> x.grow(0, 3));
        still("about cell 63, none such", () -> drawn(LAST_CELL), NONE, x -> x.grow(0, -1));
        for (int cell = 0; cell < 64; cell++) {
            HalfAndHalfAgain x = drawn(ALL);
            x.set(0, cell, false);
            due("none such", x.grow(0, 1), NONE);
            due("the last one that fails", x.grow(0, 0), cell);
            due("all", x.figure(0), -1);
            due("none any more", x.grow(0, 0), NONE);
        }
    }

    /** Of 32 cells the first is 0 and the last is 62; each other number has none. */
    private static void growAll(int figure) {
        for (int i = 0; i < 32; i++) {
            HalfAndHalfAgain x = draw(new HalfAndHalfAgain(), figure, LOOSE);
            long before = x.figure(figure), others = ~before;
            for (int k = 0; k < i; k++) others &= others - 1;
            int cell = Long.numberOfTrailingZeros(others);
            due("cell " + i + " of 32", x.grow(figure, i), cell);
            due("with that cell", x.figure(figure), before | 1L << cell);
            due("no other figure", x.count(2), 1);
        }
        for (int i : beyond(0, 31)) {
            Maker maker = () -> draw(new HalfAndHalfAgain(), figure, LOOSE);
            still("none such of 32: " + i, maker, NONE, x -> x.grow(figure, i));
        }
    }

    // ---- slots

    private static void keep() {
        promise = 37;
        for (int slot : beyond(0, 1)) refused("slot: " + slot, UNKNOWN, x -> x.keep(slot));
        for (int slot = 0; slot < 2; slot++) {
            for (int filled = 0; filled <= 8; filled++) {
                HalfAndHalfAgain x = new HalfAndHalfAgain();
                for (int f = 0; f < filled; f++) x.set(7 - f, 63, true);
                due("how many are not empty", x.keep(slot), filled);
                due("all are as they were", x.count(2), filled);
                due("the other slot has none", x.again(1 - slot), STATE);
                due("how many are not empty", x.again(slot), filled);
            }
            keptOverAnother(slot);
            HalfAndHalfAgain x = crowded();
            due("kept of a crowd", x.keep(slot), 8);
            due("the text stays", x.count(0), 5);
            due("the pieces stay", x.count(1), 4);
            due("the figures stay", x.count(2), 8);
        }
    }

    private static void keptOverAnother(int slot) {
        HalfAndHalfAgain x = drawn(ALL, ELL);
        pieces(x, 1, 4);
        x.keep(slot);
        for (int p = 0; p < 4; p++) x.lift();
        x.both(0, 3, 0, 0);
        due("kept over it", x.keep(slot), 1);
        draw(x, 0, "1");
        x.lay(0, true);
        due("the last that was kept", x.again(slot), 1);
        due("the last that was kept: pieces", x.count(1), 0);
        due("the last that was kept: figures", x.figure(0), 0);
        x.both(1, 3, 1, 1);
        due("nothing at all kept over it", x.keep(slot), 0);
        draw(x, 0, "1");
        x.lay(0, true);
        due("nothing at all", x.again(slot), 0);
        same("nothing at all: as new, but for the slot", tell(x), tell(keptNothing(slot)));
    }

    private static HalfAndHalfAgain keptNothing(int slot) {
        HalfAndHalfAgain x = new HalfAndHalfAgain();
        x.keep(slot);
        return x;
    }

    private static void again() {
        promise = 38;
        for (int slot : beyond(0, 1)) refused("slot: " + slot, UNKNOWN, x -> x.again(slot));
        for (int slot = 0; slot < 2; slot++) {
            int of = slot;
            still("none were kept", () -> new HalfAndHalfAgain(), STATE, x -> x.again(of));
            still("none were kept, faulty", () -> make(FAULTY), STATE, x -> x.again(of));
            still("none were kept in this one", () -> keptNothing(1 - of), STATE, x -> x.again(of));
            HalfAndHalfAgain y = keptNothing(slot);
            y.keep(2);
            due("nothing was kept, which is something", y.again(slot), 0);
            againAsItWas(slot);
        }
        still("none were kept in slot 0", () -> make(BUSY), STATE, x -> x.again(0));
        textStays();
    }

    private static void againAsItWas(int slot) {
        for (int state = 0; state < STATES.length; state++) {
            HalfAndHalfAgain x = make(state), y = make(state);
            y.keep(slot);
            String kept = tell(y);
            int filled = x.keep(slot);
            spoil(x);
            due("how many are not empty", x.again(slot), filled);
            same("again after all was spoilt", tell(x), kept);
            spoil(x);
            due("how many are not empty, a second time", x.again(slot), filled);
        }
    }

    /** Every figure and every piece becomes another one. */
    private static void spoil(HalfAndHalfAgain x) {
        for (int p = 0; p < 4; p++) x.lift();
        for (int f = 0; f < 8; f++) {
            x.both(f, 3, f, f);
            x.set(f, 63 - f, true);
        }
        for (int p = 0; p < 4; p++) x.lay(p, p % 2 == 0);
    }

    private static void textStays() {
        for (int length = 0; length <= 16; length += 8) {
            HalfAndHalfAgain x = keptNothing(0);
            put(x, repeated('8', length));
            x.again(0);
            due("the text stays", x.count(0), length);
            due("the text stays", x.fault(), length < 16 ? length : NONE);
        }
    }

    private static void count() {
        promise = 39;
        for (int what = 0; what < 4; what++) {
            int of = what;
            asks("count " + what, x -> x.count(of));
        }
        taken("what", 0, 3, OUTSIDE, (x, n) -> x.count(n));
        for (int length = 0; length <= 16; length++) due("bytes", written(repeated('z', length)).count(0), length);
        HalfAndHalfAgain x = new HalfAndHalfAgain();
        for (int f = 0; f < 8; f++) {
            due("figures", x.count(2), f);
            due("cells", x.count(3), 64 * f);
            draw(x, f, ALL);
        }
        due("all figures", x.count(2), 8);
        due("all cells of all", x.count(3), 512);
        for (int p = 0; p < 4; p++) {
            due("pieces", x.count(1), p);
            x.lay(0, true);
        }
        due("all pieces", x.count(1), 4);
        x.lay(0, true);
        due("no more than all", x.count(1), 4);
        HalfAndHalfAgain y = new HalfAndHalfAgain();
        y.set(7, 63, true);
        due("figure 7 with cell 63", y.count(2), 1);
        due("figure 7 with cell 63", y.count(3), 1);
    }
}
