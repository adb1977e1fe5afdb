/** Figures of quarter squares on a board of four by four squares. */
public final class HalfAndHalfAgain {
    public static final int UNKNOWN = -1, OUTSIDE = -2, STATE = -3, FULL = -4, NONE = -9;

    private static final int FIGURES = 8;
    private static final int PIECES = 4;
    private static final int SLOTS = 2;
    private static final int SIGNS = 16;
    private static final int CELLS = 64;
    private static final int TURNS = 8;
    private static final int KINDS = 4;
    private static final long SIGN_BIT = 1L << 63;

    private final Text text;
    private final Store now;
    // A SLOT is null until something is kept in it.
    private final Store[] slots;
    private final Cover cover;
    private final long[] formsSeen;

    public HalfAndHalfAgain() {
        text = new Text();
        now = new Store();
        slots = new Store[SLOTS];
        cover = new Cover();
        formsSeen = new long[CELLS];
    }

    // ---- words

    public int write(int n, long v) {
        if (n < 1 || n > 8) {
            return OUTSIDE;
        }
        if (text.length + n > SIGNS) {
            return FULL;
        }
        text.append(n, v);
        return text.length;
    }

    public int wipe() {
        int length = text.length;
        text.length = 0;
        return length;
    }

    public int fault() {
        return text.firstFault();
    }

    public int word(int figure) {
        if (noFigure(figure)) {
            return UNKNOWN;
        }
        if (text.firstFault() != NONE) {
            return STATE;
        }
        return become(figure, text.cells());
    }

    public int sign(int figure, int i) {
        if (noFigure(figure)) {
            return UNKNOWN;
        }
        if (i < 0 || i >= SIGNS) {
            return OUTSIDE;
        }
        return Text.signOf(Cells.square(now.figures[figure], i));
    }

    // ---- figures

    public long figure(int figure) {
        return noFigure(figure) ? 0 : now.figures[figure];
    }

    public int set(int figure, int cell, boolean on) {
        if (noFigure(figure) || cell < 0 || cell >= CELLS) {
            return UNKNOWN;
        }
        long bit = 1L << cell;
        long before = now.figures[figure];
        return change(figure, on ? before | bit : before & ~bit);
    }

    public int size(int figure) {
        return noFigure(figure) ? UNKNOWN : Long.bitCount(now.figures[figure]);
    }

    public int parts(int figure) {
        return noFigure(figure) ? UNKNOWN : Cells.countParts(now.figures[figure]);
    }

    public int holes(int figure) {
        return noFigure(figure) ? UNKNOWN : Cells.countHoles(now.figures[figure]);
    }

    public int edges(int figure, boolean slanting) {
        if (noFigure(figure)) {
            return UNKNOWN;
        }
        long cells = now.figures[figure];
        return slanting ? Cells.slantingEdges(cells) : Cells.straightEdges(cells);
    }

    public int corners(int figure, int eighths) {
        if (noFigure(figure)) {
            return UNKNOWN;
        }
        if (eighths < 0 || eighths > 7) {
            return OUTSIDE;
        }
        return Points.countCorners(now.figures[figure], eighths);
    }

    public int convex(int figure) {
        if (noFigure(figure)) {
            return UNKNOWN;
        }
        long cells = now.figures[figure];
        boolean whole = Cells.countParts(cells) == 1 && Cells.countHoles(cells) == 0;
        return whole && Points.bulgeOnly(cells) ? 1 : 0;
    }

    // ---- turns, forms

    public int turn(int figure, int t) {
        if (noFigure(figure)) {
            return UNKNOWN;
        }
        if (t < 0 || t >= TURNS) {
            return OUTSIDE;
        }
        return change(figure, Moves.turned(now.figures[figure], t));
    }

    public int shift(int figure, int x, int y) {
        if (noFigure(figure)) {
            return UNKNOWN;
        }
        if (x < -3 || x > 3 || y < -3 || y > 3) {
            return OUTSIDE;
        }
        long cells = now.figures[figure];
        if (!Moves.staysOnBoard(cells, x, y)) {
            return STATE;
        }
        return become(figure, Moves.shifted(cells, x, y));
    }

    public long form(int figure) {
        return noFigure(figure) ? 0 : Moves.leastForm(now.figures[figure]);
    }

    public int like(int figure, int other) {
        if (noFigure(figure) || noFigure(other)) {
            return UNKNOWN;
        }
        return Moves.leastForm(now.figures[figure]) == Moves.leastForm(now.figures[other]) ? 1 : 0;
    }

    public int itself(int figure) {
        return noFigure(figure) ? UNKNOWN : Moves.turnsOntoItself(now.figures[figure]);
    }

    // ---- both, lines

    public int both(int figure, int what, int one, int other) {
        if (noFigure(figure) || noFigure(one) || noFigure(other)) {
            return UNKNOWN;
        }
        if (what < 0 || what > 3) {
            return OUTSIDE;
        }
        return become(figure, combined(what, now.figures[one], now.figures[other]));
    }

    public int ahead(int figure, int kind, int x) {
        if (noFigure(figure)) {
            return UNKNOWN;
        }
        if (Lines.isNone(kind, x)) {
            return OUTSIDE;
        }
        return Long.bitCount(now.figures[figure] & Lines.cellsAhead(kind, x));
    }

    public int cut(int figure, int kind, int x) {
        if (noFigure(figure)) {
            return UNKNOWN;
        }
        if (Lines.isNone(kind, x)) {
            return OUTSIDE;
        }
        long cells = now.figures[figure];
        long side = Lines.cellsAhead(kind, x);
        return Cells.countParts(cells & side) + Cells.countParts(cells & ~side);
    }

    public int halves(int figure) {
        return noFigure(figure) ? UNKNOWN : Lines.countHalving(now.figures[figure]);
    }

    public int split(int figure, int kind, int x, int other) {
        if (noFigure(figure) || noFigure(other)) {
            return UNKNOWN;
        }
        if (Lines.isNone(kind, x)) {
            return OUTSIDE;
        }
        if (figure == other) {
            return STATE;
        }
        long cells = now.figures[figure];
        long side = Lines.cellsAhead(kind, x);
        now.figures[figure] = cells & side;
        return become(other, cells & ~side);
    }

    public int part(int figure, int other, int i) {
        if (noFigure(figure) || noFigure(other)) {
            return UNKNOWN;
        }
        long found = Cells.partAt(now.figures[other], i);
        return found == 0 ? STATE : become(figure, found);
    }

    // ---- pieces

    public int lay(int figure, boolean mirrored) {
        if (noFigure(figure)) {
            return UNKNOWN;
        }
        if (now.figures[figure] == 0) {
            return STATE;
        }
        if (now.laid >= PIECES) {
            return FULL;
        }
        now.pieces[now.laid] = now.figures[figure];
        now.mayMirror[now.laid] = mirrored;
        now.laid++;
        return now.laid - 1;
    }

    public int lift() {
        if (now.laid < 1) {
            return STATE;
        }
        now.laid--;
        return now.laid;
    }

    public long piece(int piece) {
        return noPiece(piece) ? 0 : now.pieces[piece];
    }

    public int places(int piece, int figure) {
        if (noPiece(piece) || noFigure(figure)) {
            return UNKNOWN;
        }
        return cover.findSpots(now, piece, now.figures[figure]);
    }

    public long place(int piece, int figure) {
        if (noPiece(piece) || noFigure(figure)) {
            return 0;
        }
        cover.findSpots(now, piece, now.figures[figure]);
        return cover.leastSpot(piece);
    }

    public int ways(int figure) {
        return noFigure(figure) ? UNKNOWN : cover.countWays(now, now.figures[figure]);
    }

    public long first(int figure, int piece) {
        if (noFigure(figure) || noPiece(piece)) {
            return 0;
        }
        return cover.countWays(now, now.figures[figure]) == 0 ? 0 : cover.best[piece];
    }

    public int idle(int figure) {
        if (noFigure(figure)) {
            return UNKNOWN;
        }
        int bits = 0;
        for (int p = 0; p < now.laid; p++) {
            if (cover.findSpots(now, p, now.figures[figure]) == 0) {
                bits |= 1 << p;
            }
        }
        return bits;
    }

    // ---- growth

    public int grown(int figure) {
        return noFigure(figure) ? UNKNOWN : Long.bitCount(Cells.around(now.figures[figure]));
    }

    public int forms(int figure) {
        return noFigure(figure) ? UNKNOWN : countGrownForms(now.figures[figure]);
    }

    public int grow(int figure, int i) {
        if (noFigure(figure)) {
            return UNKNOWN;
        }
        long cells = now.figures[figure];
        long cell = Cells.cellAt(Cells.around(cells), i);
        if (cell == 0) {
            return NONE;
        }
        now.figures[figure] = cells | cell;
        return Long.bitCount(cell - 1);
    }

    // ---- slots

    public int keep(int slot) {
        if (slot < 0 || slot >= SLOTS) {
            return UNKNOWN;
        }
        if (slots[slot] == null) {
            slots[slot] = new Store();
        }
        slots[slot].copyFrom(now);
        return now.countFilled();
    }

    public int again(int slot) {
        if (slot < 0 || slot >= SLOTS) {
            return UNKNOWN;
        }
        if (slots[slot] == null) {
            return STATE;
        }
        now.copyFrom(slots[slot]);
        return now.countFilled();
    }

    public int count(int what) {
        switch (what) {
            case 0:
                return text.length;
            case 1:
                return now.laid;
            case 2:
                return now.countFilled();
            case 3:
                return now.countCells();
            default:
                return OUTSIDE;
        }
    }

    private static boolean noFigure(int figure) {
        return figure < 0 || figure >= FIGURES;
    }

    private boolean noPiece(int piece) {
        return piece < 0 || piece >= now.laid || piece >= PIECES;
    }

    private int become(int figure, long cells) {
        now.figures[figure] = cells;
        return Long.bitCount(cells);
    }

    private int change(int figure, long cells) {
        boolean changed = now.figures[figure] != cells;
        now.figures[figure] = cells;
        return changed ? 1 : 0;
    }

    private static long combined(int what, long one, long other) {
        switch (what) {
            case 0:
                return one | other;
            case 1:
                return one & other;
            case 2:
                return one & ~other;
            default:
                return one ^ other;
        }
    }

    private int countGrownForms(long cells) {
        long rest = Cells.around(cells);
        int known = 0;
        for (int i = 0; i < CELLS && rest != 0; i++) {
            long cell = rest & -rest;
            rest ^= cell;
            long form = Moves.leastForm(cells | cell);
            if (!isAmong(formsSeen, known, form)) {
                formsSeen[known] = form;
                known++;
            }
        }
        return known;
    }

    private static boolean isAmong(long[] row, int length, long wanted) {
        for (int i = 0; i < length && i < row.length; i++) {
            if (row[i] == wanted) {
                return true;
            }
        }
        return false;
    }

    // As a signed comparison would put CELL 63 below all others.
    private static boolean isLess(long one, long other) {
        return (one ^ SIGN_BIT) < (other ^ SIGN_BIT);
    }

    /** THE TEXT, and how it is read as a WORD. */
    private static final class Text {
        final int[] bytes = new int[SIGNS];
        int length = 0;

        void append(int n, long v) {
            for (int i = n - 1; i >= 0 && length < SIGNS; i--) {
                bytes[length] = (int) (v >>> 8 * i) & 255;
                length++;
            }
        }

        int firstFault() {
            for (int i = 0; i < length; i++) {
                if (valueOf(bytes[i]) < 0) {
                    return i;
                }
            }
            return length < SIGNS ? length : NONE;
        }

        long cells() {
            long cells = 0;
            for (int i = 0; i < length; i++) {
                cells |= (long) valueOf(bytes[i]) << 4 * i;
            }
            return cells;
        }

        static int valueOf(int sign) {
            if (sign >= '0' && sign <= '9') {
                return sign - '0';
            }
            return sign >= 'a' && sign <= 'f' ? sign - 'a' + 10 : -1;
        }

        static int signOf(int value) {
            return value < 10 ? '0' + value : 'a' + value - 10;
        }
    }

    /** What a SLOT keeps: FIGURES and PIECES, but not THE TEXT. */
    private static final class Store {
        final long[] figures = new long[FIGURES];
        final long[] pieces = new long[PIECES];
        final boolean[] mayMirror = new boolean[PIECES];
        int laid = 0;

        void copyFrom(Store other) {
            for (int i = 0; i < FIGURES; i++) {
                figures[i] = other.figures[i];
            }
            for (int i = 0; i < PIECES; i++) {
                pieces[i] = other.pieces[i];
                mayMirror[i] = other.mayMirror[i];
            }
            laid = other.laid;
        }

        int countFilled() {
            int filled = 0;
            for (int i = 0; i < FIGURES; i++) {
                if (figures[i] != 0) {
                    filled++;
                }
            }
            return filled;
        }

        int countCells() {
            int cells = 0;
            for (int i = 0; i < FIGURES; i++) {
                cells += Long.bitCount(figures[i]);
            }
            return cells;
        }
    }

    /** NEIGHBOURS, PARTS and EDGES of sets of CELLS, all CELLS of a set at once. */
    private static final class Cells {
        static final long UPPER = 0x1111111111111111L;
        static final long RIGHT = 0x2222222222222222L;
        static final long LOWER = 0x4444444444444444L;
        static final long LEFT = 0x8888888888888888L;
        static final long FIRST_COLUMN = 0x000F000F000F000FL;
        static final long LAST_COLUMN = 0xF000F000F000F000L;
        static final long FIRST_ROW = 0x000000000000FFFFL;
        static final long LAST_ROW = 0xFFFF000000000000L;
        static final long RIM = UPPER & FIRST_ROW | LOWER & LAST_ROW
                | LEFT & FIRST_COLUMN | RIGHT & LAST_COLUMN;

        static int square(long cells, int i) {
            return (int) (cells >>> 4 * i) & 15;
        }

        static long nextInSquare(long cells) {
            return (cells & ~LEFT) << 1 | (cells & LEFT) >>> 3;
        }

        static long lastInSquare(long cells) {
            return (cells & ~UPPER) >>> 1 | (cells & UPPER) << 3;
        }

        // Upward and downward need no mask for the rim: what leaves the board leaves the long.
        static long acrossSides(long cells) {
            return (cells & RIGHT & ~LAST_COLUMN) << 6 | (cells & LEFT & ~FIRST_COLUMN) >>> 6
                    | (cells & LOWER) << 14 | (cells & UPPER) >>> 14;
        }

        static long neighbours(long cells) {
            return nextInSquare(cells) | lastInSquare(cells) | acrossSides(cells);
        }

        static long around(long cells) {
            return neighbours(cells) & ~cells;
        }

        static long partFrom(long seed, long within) {
            long part = seed & within;
            for (int i = 0; i < CELLS; i++) {
                long wider = (part | neighbours(part)) & within;
                if (wider == part) {
                    return part;
                }
                part = wider;
            }
            return part;
        }

        static int countParts(long cells) {
            long rest = cells;
            int found = 0;
            for (int i = 0; i < CELLS && rest != 0; i++) {
                rest &= ~partFrom(rest & -rest, rest);
                found++;
            }
            return found;
        }

        static long partAt(long cells, int index) {
            long rest = cells;
            for (int i = 0; i < CELLS && rest != 0; i++) {
                long part = partFrom(rest & -rest, rest);
                if (i == index) {
                    return part;
                }
                rest &= ~part;
            }
            return 0;
        }

        static int countHoles(long cells) {
            long rest = ~cells;
            int found = 0;
            for (int i = 0; i < CELLS && rest != 0; i++) {
                long part = partFrom(rest & -rest, rest);
                rest &= ~part;
                if ((part & RIM) == 0) {
                    found++;
                }
            }
            return found;
        }

        static long cellAt(long cells, int index) {
            long rest = cells;
            for (int i = 0; i < CELLS && rest != 0; i++) {
                long cell = rest & -rest;
                if (i == index) {
                    return cell;
                }
                rest ^= cell;
            }
            return 0;
        }

        // A CELL has just one straight EDGE, so CELLS can be counted for EDGES.
        static int straightEdges(long cells) {
            return Long.bitCount(cells & ~acrossSides(cells));
        }

        static int slantingEdges(long cells) {
            return Long.bitCount(cells ^ nextInSquare(cells));
        }
    }

    /** CORNERS: the points about which sectors meet, each with a ring of eight eighths. */
    private static final class Points {
        static final int SIDE = 5;
        static final int SQUARE_CORNERS = SIDE * SIDE;
        static final int ALL = SQUARE_CORNERS + SIGNS;

        static int countCorners(long cells, int eighths) {
            int found = 0;
            for (int point = 0; point < ALL; point++) {
                int ring = ringAbout(cells, point);
                for (int start = 0; start < 8; start++) {
                    int arc = arcFrom(ring, start);
                    if (arc != 0 && arc != 4 && (eighths == 0 || arc == eighths)) {
                        found++;
                    }
                }
            }
            return found;
        }

        static boolean bulgeOnly(long cells) {
            for (int point = 0; point < ALL; point++) {
                if (!bulgesAt(ringAbout(cells, point))) {
                    return false;
                }
            }
            return true;
        }

        static boolean bulgesAt(int ring) {
            int arcs = 0;
            for (int start = 0; start < 8; start++) {
                int arc = arcFrom(ring, start);
                if (arc > 4) {
                    return false;
                }
                if (arc > 0) {
                    arcs++;
                }
            }
            return arcs < 2;
        }

        // 0 if no arc begins at that eighth; so a ring that is all full has none.
        static int arcFrom(int ring, int start) {
            if (!isFull(ring, start) || isFull(ring, start + 7)) {
                return 0;
            }
            int arc = 1;
            while (arc < 8 && isFull(ring, start + arc)) {
                arc++;
            }
            return arc;
        }

        static boolean isFull(int ring, int eighth) {
            return (ring >> (eighth & 7) & 1) != 0;
        }

        static int ringAbout(long cells, int point) {
            if (point < SQUARE_CORNERS) {
                return ringAboutCorner(cells, point / SIDE, point % SIDE);
            }
            return ringAboutMidst(Cells.square(cells, point - SQUARE_CORNERS));
        }

        static int ringAboutMidst(int square) {
            int ring = 0;
            for (int k = 0; k < 4; k++) {
                if ((square >> k & 1) != 0) {
                    ring |= 3 << 2 * k;
                }
            }
            return ring;
        }

        // The eighths run clockwise, the first one right of the line that goes up.
        static int ringAboutCorner(long cells, int row, int column) {
            int upperRight = squareAt(cells, row - 1, column);
            int lowerRight = squareAt(cells, row, column);
            int lowerLeft = squareAt(cells, row, column - 1);
            int upperLeft = squareAt(cells, row - 1, column - 1);
            return upperRight >> 3 & 1 | (upperRight >> 2 & 1) << 1
                    | (lowerRight & 1) << 2 | (lowerRight >> 3 & 1) << 3
                    | (lowerLeft >> 1 & 1) << 4 | (lowerLeft & 1) << 5
                    | (upperLeft >> 2 & 1) << 6 | (upperLeft >> 1 & 1) << 7;
        }

        static int squareAt(long cells, int row, int column) {
            if (row < 0 || row > 3 || column < 0 || column > 3) {
                return 0;
            }
            return Cells.square(cells, 4 * row + column);
        }
    }

    /** TURNS, SHIFTS and THE FORM. */
    private static final class Moves {
        // Each bit of the mask changes places with the one that is so far above it.
        static long swapped(long cells, long mask, int distance) {
            long differ = (cells >>> distance ^ cells) & mask;
            return cells ^ differ ^ differ << distance;
        }

        static long mirrored(long cells) {
            long squares = swapped(swapped(cells, 0x00FF00FF00FF00FFL, 8), 0x0F0F0F0F0F0F0F0FL, 4);
            return swapped(squares, Cells.RIGHT, 2);
        }

        // About the line that falls to the right: upper with left, right with lower.
        static long mirroredAslant(long cells) {
            long squares = swapped(swapped(cells, 0x00000000FF00FF00L, 24), 0x0000F0F00000F0F0L, 12);
            return swapped(swapped(squares, 0x3333333333333333L, 2), 0x5555555555555555L, 1);
        }

        // Two mirrors make a turn.
        static long quarterRight(long cells) {
            return mirrored(mirroredAslant(cells));
        }

        static long turned(long cells, int t) {
            long result = t >= 4 ? mirrored(cells) : cells;
            for (int i = 0; i < (t & 3); i++) {
                result = quarterRight(result);
            }
            return result;
        }

        static boolean staysOnBoard(long cells, int x, int y) {
            for (int i = 0; i < Math.abs(x); i++) {
                if ((cells & Cells.FIRST_COLUMN << 4 * (x > 0 ? 3 - i : i)) != 0) {
                    return false;
                }
            }
            for (int i = 0; i < Math.abs(y); i++) {
                if ((cells & Cells.FIRST_ROW << 16 * (y > 0 ? 3 - i : i)) != 0) {
                    return false;
                }
            }
            return true;
        }

        static long shifted(long cells, int x, int y) {
            int by = 4 * x + 16 * y;
            return by < 0 ? cells >>> -by : cells << by;
        }

        // The least of all SHIFTS, as each step right or down makes the long greater.
        static long inCorner(long cells) {
            long result = cells;
            for (int i = 0; i < 3 && (result & Cells.FIRST_ROW) == 0; i++) {
                result >>>= 16;
            }
            for (int i = 0; i < 3 && (result & Cells.FIRST_COLUMN) == 0; i++) {
                result >>>= 4;
            }
            return result;
        }

        static long leastForm(long cells) {
            long least = inCorner(cells);
            for (int t = 1; t < TURNS; t++) {
                long other = inCorner(turned(cells, t));
                if (isLess(other, least)) {
                    least = other;
                }
            }
            return least;
        }

        static int turnsOntoItself(long cells) {
            long corner = inCorner(cells);
            int found = 0;
            for (int t = 0; t < TURNS; t++) {
                if (inCorner(turned(cells, t)) == corner) {
                    found++;
                }
            }
            return found;
        }
    }

    /** LINES, and the CELLS ahead of them. */
    private static final class Lines {
        static final int LOWER_LEFT = 12;
        static final int UPPER_LEFT = 9;

        static boolean isNone(int kind, int x) {
            return kind < 0 || kind >= KINDS || x < lowest(kind) || x > highest(kind);
        }

        static int lowest(int kind) {
            return kind == 2 ? -4 : 0;
        }

        static int highest(int kind) {
            return kind == 3 ? 8 : 4;
        }

        static long cellsAhead(int kind, int x) {
            long cells = 0;
            for (int row = 0; row < 4; row++) {
                cells |= rowAhead(kind, x, row) << 16 * row;
            }
            return cells;
        }

        static long rowAhead(int kind, int x, int row) {
            switch (kind) {
                case 0:
                    return row < x ? Cells.FIRST_ROW : 0;
                case 1:
                    return squaresFromLeft(x, 0);
                case 2:
                    return squaresFromLeft(x + row, LOWER_LEFT);
                default:
                    return squaresFromLeft(x - row - 1, UPPER_LEFT);
            }
        }

        static long squaresFromLeft(int whole, int nextSquare) {
            if (whole < 0) {
                return 0;
            }
            if (whole > 3) {
                return Cells.FIRST_ROW;
            }
            return (1L << 4 * whole) - 1 | (long) nextSquare << 4 * whole;
        }

        static int countHalving(long cells) {
            if (cells == 0) {
                return 0;
            }
            int found = 0;
            for (int kind = 0; kind < KINDS; kind++) {
                for (int x = lowest(kind); x <= highest(kind); x++) {
                    long side = cellsAhead(kind, x);
                    if (Long.bitCount(cells & side) == Long.bitCount(cells & ~side)) {
                        found++;
                    }
                }
            }
            return found;
        }
    }

    /** PLACES of PIECES and WAYS to cover; its rows are made once and used by every call. */
    private static final class Cover {
        // A PIECE of one by two SQUARES has the most: 4 TURNS lying, 4 upright, 12 SHIFTS each.
        static final int MOST_SPOTS = 96;

        final long[] spots = new long[PIECES * MOST_SPOTS];
        final int[] found = new int[PIECES];
        final long[] turnedSeen = new long[TURNS];
        final long[] chosen = new long[PIECES];
        final long[] best = new long[PIECES];
        int pieces = 0;
        int ways = 0;

        int findSpots(Store store, int piece, long figure) {
            found[piece] = 0;
            int turns = store.mayMirror[piece] ? TURNS : 4;
            for (int t = 0; t < turns; t++) {
                long corner = Moves.inCorner(Moves.turned(store.pieces[piece], t));
                turnedSeen[t] = corner;
                if (!isAmong(turnedSeen, t, corner)) {
                    findShifts(piece, corner, figure);
                }
            }
            return found[piece];
        }

        private void findShifts(int piece, long corner, long figure) {
            for (int y = 0; y < 4; y++) {
                for (int x = 0; x < 4; x++) {
                    if (Moves.staysOnBoard(corner, x, y)) {
                        addIfWithin(piece, Moves.shifted(corner, x, y), figure);
                    }
                }
            }
        }

        private void addIfWithin(int piece, long spot, long figure) {
            if ((spot & ~figure) == 0 && found[piece] < MOST_SPOTS) {
                spots[piece * MOST_SPOTS + found[piece]] = spot;
                found[piece]++;
            }
        }

        long leastSpot(int piece) {
            long least = 0;
            for (int i = 0; i < found[piece]; i++) {
                long spot = spots[piece * MOST_SPOTS + i];
                if (i == 0 || isLess(spot, least)) {
                    least = spot;
                }
            }
            return least;
        }

        int countWays(Store store, long figure) {
            pieces = store.laid;
            ways = 0;
            int cells = 0;
            for (int p = 0; p < pieces; p++) {
                cells += Long.bitCount(store.pieces[p]);
            }
            if (cells != Long.bitCount(figure)) {
                return 0;
            }
            for (int p = 0; p < pieces; p++) {
                findSpots(store, p, figure);
            }
            fill(figure, 0, 0);
            return ways;
        }

        // Some PIECE must cover the least CELL left: so each WAY is met once, and few are tried in vain.
        private void fill(long rest, int used, int depth) {
            if (depth >= pieces || depth >= PIECES) {
                if (rest == 0) {
                    noteWay();
                }
                return;
            }
            long cell = rest & -rest;
            for (int p = 0; p < pieces; p++) {
                if ((used >> p & 1) == 0) {
                    fillWith(p, cell, rest, used, depth);
                }
            }
        }

        private void fillWith(int piece, long cell, long rest, int used, int depth) {
            for (int i = 0; i < found[piece]; i++) {
                long spot = spots[piece * MOST_SPOTS + i];
                if ((spot & cell) != 0 && (spot & ~rest) == 0) {
                    chosen[piece] = spot;
                    fill(rest ^ spot, used | 1 << piece, depth + 1);
                }
            }
        }

        private void noteWay() {
            ways++;
            if (ways == 1 || chosenIsBefore()) {
                for (int p = 0; p < pieces; p++) {
                    best[p] = chosen[p];
                }
            }
        }

        private boolean chosenIsBefore() {
            for (int p = 0; p < pieces; p++) {
                if (chosen[p] != best[p]) {
                    return isLess(chosen[p], best[p]);
                }
            }
            return false;
        }
    }
}
