import java.util.ArrayList;
import java.util.Arrays;
import java.util.HashSet;
import java.util.List;
import java.util.Random;
import java.util.Set;
import java.util.TreeSet;

/** Long runs of calls, by a fixed seed, beside a slow model that works with points of the plane and sets. */
public final class ModelTest {
    private static int wrong = 0;

    public static void main(String[] args) {
        int runs = args.length > 0 ? Integer.parseInt(args[0]) : 2000;
        long seed = args.length > 1 ? Long.parseLong(args[1]) : 20261118L;
        Random random = new Random(seed);
        for (int run = 0; run < runs && wrong < 20; run++) {
            new Run(random, run).calls();
        }
        for (int run = 0; run < runs && wrong < 20; run++) {
            new Run(random, run).jigsaw();
        }
        System.out.println(wrong == 0 ? "the class answers as the model" : wrong + " answers are wrong");
        if (wrong != 0) System.exit(1);
    }

    /** The plane: a square is two by two wide, so that its midst has whole numbers. */
    private static final class Plane {
        static final int[][] VERTICES = new int[64][];
        static final boolean[][] STRAIGHT = new boolean[64][64];
        static final boolean[][] SLANTING = new boolean[64][64];
        static final int[][] TURNED = new int[8][64];
        static final int[][][] SHIFTED = new int[7][7][64];

        static {
            for (int cell = 0; cell < 64; cell++) VERTICES[cell] = vertices(cell);
            for (int a = 0; a < 64; a++) {
                for (int b = 0; b < 64; b++) {
                    Set<Integer> common = new HashSet<>();
                    for (int v : VERTICES[a]) for (int w : VERTICES[b]) if (v == w) common.add(v);
                    boolean edge = a != b && common.size() == 2;
                    boolean midst = false;
                    for (int v : common) midst |= v / 10 % 2 == 1;
                    SLANTING[a][b] = edge && midst;
                    STRAIGHT[a][b] = edge && !midst;
                }
                for (int t = 0; t < 8; t++) TURNED[t][a] = find(turned(VERTICES[a], t));
                for (int x = -3; x <= 3; x++) {
                    for (int y = -3; y <= 3; y++) {
                        int[] to = VERTICES[a].clone();
                        boolean off = false;
                        for (int i = 0; i < 3; i++) {
                            int px = to[i] / 10 + 2 * x, py = to[i] % 10 + 2 * y;
                            off |= px < 0 || px > 8 || py < 0 || py > 8;
                            to[i] = 10 * px + py;
                        }
                        SHIFTED[x + 3][y + 3][a] = off ? -1 : find(to);
                    }
                }
            }
        }

        static int[] vertices(int cell) {
            int left = cell / 4 % 4 * 2, top = cell / 16 * 2;
            int a = 10 * left + top, b = a + 20, c = a + 22, d = a + 2, midst = a + 11;
            switch (cell % 4) {
                case 0: return new int[] {a, b, midst};
                case 1: return new int[] {b, c, midst};
                case 2: return new int[] {c, d, midst};
                default: return new int[] {d, a, midst};
            }
        }

        static int[] turned(int[] from, int t) {
            int[] to = from.clone();
            for (int i = 0; i < 3; i++) {
                int dx = to[i] / 10 - 4, dy = to[i] % 10 - 4;
                if (t >= 4) dx = -dx;
                for (int q = 0; q < t % 4; q++) {
                    int old = dx;
                    dx = -dy;
                    dy = old;
                }
                to[i] = 10 * (dx + 4) + dy + 4;
            }
            return to;
        }

        static int find(int[] vertices) {
            int[] wanted = vertices.clone();
            Arrays.sort(wanted);
            for (int cell = 0; cell < 64; cell++) {
                int[] have = VERTICES[cell].clone();
                Arrays.sort(have);
                if (Arrays.equals(have, wanted)) return cell;
            }
            throw new IllegalStateException("no such triangle");
        }

        static int cellAt(double x, double y) {
            if (x < 0 || y < 0 || x > 8 || y > 8) return -1;
            int column = (int) (x / 2), row = (int) (y / 2);
            double dx = x - 2 * column - 1, dy = y - 2 * row - 1;
            int k = Math.abs(dx) < Math.abs(dy) ? dy < 0 ? 0 : 2 : dx > 0 ? 1 : 3;
            return 16 * row + 4 * column + k;
        }

        static boolean atRim(int cell) {
            int left = 0, right = 0, upper = 0, lower = 0;
            for (int v : VERTICES[cell]) {
                if (v / 10 == 0) left++;
                if (v / 10 == 8) right++;
                if (v % 10 == 0) upper++;
                if (v % 10 == 8) lower++;
            }
            return left == 2 || right == 2 || upper == 2 || lower == 2;
        }

        static boolean isAhead(int cell, int kind, int x) {
            int sumX = 0, sumY = 0;
            for (int v : VERTICES[cell]) {
                sumX += v / 10;
                sumY += v % 10;
            }
            switch (kind) {
                case 0: return sumY < 6 * x;
                case 1: return sumX < 6 * x;
                case 2: return sumX - sumY < 6 * x;
                default: return sumX + sumY < 6 * x;
            }
        }
    }

    private static boolean has(long figure, int cell) {
        return (figure >>> cell & 1) == 1;
    }

    private static List<Long> partsOf(long figure) {
        List<Long> parts = new ArrayList<>();
        boolean[] seen = new boolean[64];
        for (int start = 0; start < 64; start++) {
            if (!has(figure, start) || seen[start]) continue;
            long part = 0;
            List<Integer> open = new ArrayList<>();
            open.add(start);
            seen[start] = true;
            while (!open.isEmpty()) {
                int cell = open.remove(open.size() - 1);
                part |= 1L << cell;
                for (int next = 0; next < 64; next++) {
                    boolean edge = Plane.STRAIGHT[cell][next] || Plane.SLANTING[cell][next];
                    if (edge && has(figure, next) && !seen[next]) {
                        seen[next] = true;
                        open.add(next);
                    }
                }
            }
            parts.add(part);
        }
        return parts;
    }

    private static int holesOf(long figure) {
        int holes = 0;
        for (long part : partsOf(~figure)) {
            boolean rim = false;
            for (int cell = 0; cell < 64; cell++) rim |= has(part, cell) && Plane.atRim(cell);
            if (!rim) holes++;
        }
        return holes;
    }

    private static int edgesOf(long figure, boolean slanting) {
        int edges = 0;
        for (int cell = 0; cell < 64; cell++) {
            if (!has(figure, cell)) continue;
            edges += slanting ? 2 : 1;
            for (int next = 0; next < 64; next++) {
                boolean edge = slanting ? Plane.SLANTING[cell][next] : Plane.STRAIGHT[cell][next];
                if (edge && has(figure, next)) edges--;
            }
        }
        return edges;
    }

    /** The arcs about each point where sectors meet, in eighths; 8 is all round. */
    private static List<List<Integer>> arcsOf(long figure) {
        List<List<Integer>> all = new ArrayList<>();
        for (int px = 0; px <= 8; px++) {
            for (int py = 0; py <= 8; py++) {
                if (px % 2 != py % 2) continue;
                StringBuilder ring = new StringBuilder();
                for (int s = 0; s < 8; s++) {
                    double angle = Math.PI / 8 + s * Math.PI / 4;
                    int cell = Plane.cellAt(px + 0.3 * Math.cos(angle), py + 0.3 * Math.sin(angle));
                    ring.append(cell >= 0 && has(figure, cell) ? '#' : '.');
                }
                List<Integer> arcs = new ArrayList<>();
                int gap = ring.indexOf(".");
                if (gap < 0) {
                    arcs.add(8);
                } else {
                    String from = ring.substring(gap) + ring.substring(0, gap);
                    for (String arc : from.split("\\.+")) if (!arc.isEmpty()) arcs.add(arc.length());
                }
                all.add(arcs);
            }
        }
        return all;
    }

    private static int cornersOf(long figure, int eighths) {
        int corners = 0;
        for (List<Integer> arcs : arcsOf(figure)) {
            for (int arc : arcs) {
                if (arc != 8 && arc != 4 && (eighths == 0 || eighths == arc)) corners++;
            }
        }
        return corners;
    }

    private static int convexOf(long figure) {
        if (figure == 0 || partsOf(figure).size() != 1 || holesOf(figure) != 0) return 0;
        for (List<Integer> arcs : arcsOf(figure)) {
            if (arcs.size() > 1) return 0;
            for (int arc : arcs) if (arc > 4 && arc < 8) return 0;
        }
        return 1;
    }

    private static long turnedBy(long figure, int t) {
        long to = 0;
        for (int cell = 0; cell < 64; cell++) if (has(figure, cell)) to |= 1L << Plane.TURNED[t][cell];
        return to;
    }

    private static boolean stays(long figure, int x, int y) {
        for (int cell = 0; cell < 64; cell++) {
            if (has(figure, cell) && Plane.SHIFTED[x + 3][y + 3][cell] < 0) return false;
        }
        return true;
    }

    private static long shiftedBy(long figure, int x, int y) {
        long to = 0;
        for (int cell = 0; cell < 64; cell++) {
            if (has(figure, cell)) to |= 1L << Plane.SHIFTED[x + 3][y + 3][cell];
        }
        return to;
    }

    private static TreeSet<Long> allLike(long figure, int turns) {
        TreeSet<Long> all = new TreeSet<>(Long::compareUnsigned);
        for (int t = 0; t < turns; t++) {
            long turned = turnedBy(figure, t);
            for (int x = -3; x <= 3; x++) {
                for (int y = -3; y <= 3; y++) if (stays(turned, x, y)) all.add(shiftedBy(turned, x, y));
            }
        }
        return all;
    }

    private static long formOf(long figure) {
        return allLike(figure, 8).first();
    }

    private static int itselfOf(long figure) {
        int turns = 0;
        for (int t = 0; t < 8; t++) if (allLike(turnedBy(figure, t), 1).contains(figure)) turns++;
        return turns;
    }

    private static int sideOf(long figure, int kind, int x) {
        return Long.bitCount(aheadOf(figure, kind, x));
    }

    private static long aheadOf(long figure, int kind, int x) {
        long to = 0;
        for (int cell = 0; cell < 64; cell++) if (has(figure, cell) && Plane.isAhead(cell, kind, x)) to |= 1L << cell;
        return to;
    }

    private static boolean isLine(int kind, int x) {
        switch (kind) {
            case 0: case 1: return x >= 0 && x <= 4;
            case 2: return x >= -4 && x <= 4;
            case 3: return x >= 0 && x <= 8;
            default: return false;
        }
    }

    private static int halvesOf(long figure) {
        int lines = 0;
        for (int kind = 0; kind < 4 && figure != 0; kind++) {
            for (int x = -9; x < 10; x++) {
                if (isLine(kind, x) && 2 * sideOf(figure, kind, x) == Long.bitCount(figure)) lines++;
            }
        }
        return lines;
    }

    private static List<Integer> growthOf(long figure) {
        List<Integer> cells = new ArrayList<>();
        for (int cell = 0; cell < 64; cell++) {
            boolean beside = false;
            for (int next = 0; next < 64; next++) {
                beside |= has(figure, next) && (Plane.STRAIGHT[cell][next] || Plane.SLANTING[cell][next]);
            }
            if (beside && !has(figure, cell)) cells.add(cell);
        }
        return cells;
    }

    /** The state as the document tells it. */
    private static final class Model {
        long[] figures = new long[8];
        StringBuilder text = new StringBuilder();
        List<Long> pieces = new ArrayList<>();
        List<Boolean> leave = new ArrayList<>();
        long[][] keptFigures = new long[2][];
        List<List<Long>> keptPieces = new ArrayList<>(Arrays.asList(null, null));
        List<List<Boolean>> keptLeave = new ArrayList<>(Arrays.asList(null, null));

        int fault() {
            for (int i = 0; i < text.length(); i++) {
                if ("0123456789abcdef".indexOf(text.charAt(i)) < 0) return i;
            }
            return text.length() == 16 ? -9 : text.length();
        }

        int filled() {
            int filled = 0;
            for (long figure : figures) if (figure != 0) filled++;
            return filled;
        }

        List<Long> spots(int piece, long figure) {
            List<Long> spots = new ArrayList<>();
            for (long spot : allLike(pieces.get(piece), leave.get(piece) ? 8 : 4)) {
                if ((spot & ~figure) == 0) spots.add(spot);
            }
            return spots;
        }

        /** All ways, the first one first. */
        List<long[]> ways(long figure) {
            List<List<Long>> spots = new ArrayList<>();
            for (int p = 0; p < pieces.size(); p++) spots.add(spots(p, figure));
            List<long[]> ways = new ArrayList<>();
            ways(spots, 0, figure, new long[pieces.size()], ways);
            return ways;
        }

        private void ways(List<List<Long>> spots, int p, long rest, long[] taken, List<long[]> ways) {
            if (p == spots.size()) {
                if (rest == 0) ways.add(taken.clone());
                return;
            }
            int need = 0;
            for (int q = p; q < spots.size(); q++) need += Long.bitCount(pieces.get(q));
            if (need != Long.bitCount(rest)) return;
            for (long spot : spots.get(p)) {
                if ((spot & ~rest) != 0) continue;
                taken[p] = spot;
                ways(spots, p + 1, rest & ~spot, taken, ways);
            }
        }
    }

    private static final class Run {
        /** A whole text is 17 calls, and each call that is checked is followed by a look at the eight figures. */
        static final int MOST_AT_ONCE = 17 + 9;
        final Random random;
        final int number;
        final HalfAndHalfAgain x = new HalfAndHalfAgain();
        final Model m = new Model();
        final StringBuilder told = new StringBuilder();
        /** How many calls the object has had, of the 512 that are promised. */
        int made = 0;

        Run(Random random, int number) {
            this.random = random;
            this.number = number;
        }

        void due(String call, long got, long want) {
            made += 9;
            told.append(call).append(" = ").append(got).append('\n');
            if (got != want) {
                wrong++;
                System.out.println("run " + number + ":\n" + told + "due is " + want);
            }
            for (int f = 0; f < 8; f++) {
                if (x.figure(f) != m.figures[f]) {
                    wrong++;
                    System.out.println("run " + number + ":\n" + told + "figure " + f + " is " + x.figure(f)
                            + ", due is " + m.figures[f]);
                    m.figures[f] = x.figure(f);
                }
            }
        }

        /** A number from low to high, now and then one beside them or far off. */
        int number(int low, int high) {
            int chance = random.nextInt(40);
            if (chance == 0) return low - 1;
            if (chance == 1) return high + 1;
            if (chance == 2) return random.nextInt();
            return low + random.nextInt(high - low + 1);
        }

        void calls() {
            while (made <= 512 - MOST_AT_ONCE && wrong < 20) call(random.nextInt(44));
        }

        void call(int which) {
            if (which < 8) textCall(which);
            else if (which < 18) figureCall(which);
            else if (which < 30) moveCall(which);
            else if (which < 38) pieceCall(which);
            else otherCall(which);
        }

        boolean known(int figure) {
            return figure >= 0 && figure < 8;
        }

        void textCall(int which) {
            int f = number(0, 7);
            if (which == 0) {
                int n = number(1, 8);
                long v = random.nextLong();
                for (int i = 0; i < 8; i++) {
                    if (random.nextInt(60) == 0) continue;
                    v = v & ~(255L << 8 * i) | (long) "0123456789abcdef00ff36c9".charAt(random.nextInt(24)) << 8 * i;
                }
                long want;
                if (n < 1 || n > 8) want = -2;
                else if (m.text.length() + n > 16) want = -4;
                else {
                    for (int i = n - 1; i >= 0; i--) m.text.append((char) (v >>> 8 * i & 255));
                    want = m.text.length();
                }
                due("write(" + n + ", " + v + ")", x.write(n, v), want);
            } else if (which == 1) {
                int want = m.text.length();
                m.text.setLength(0);
                due("wipe()", x.wipe(), want);
            } else if (which == 2) {
                due("fault()", x.fault(), m.fault());
            } else if (which == 3) {
                int i = number(0, 15);
                int want = !known(f) ? -1 : i < 0 || i > 15 ? -2
                        : Character.forDigit((int) (m.figures[f] >>> 4 * i & 15), 16);
                due("sign(" + f + ", " + i + ")", x.sign(f, i), want);
            } else {
                if (random.nextInt(4) > 0) wholeText();
                int want = !known(f) ? -1 : m.fault() != -9 ? -3 : 0;
                if (want == 0) {
                    m.figures[f] = 0;
                    for (int i = 0; i < 16; i++) {
                        m.figures[f] |= (long) Character.digit(m.text.charAt(i), 16) << 4 * i;
                    }
                    want = Long.bitCount(m.figures[f]);
                }
                due("word(" + f + ")", x.word(f), want);
            }
        }

        void wholeText() {
            String signs = new String[] {"0123456789abcdef", "000f", "0ff", "00369c", "0f0f0f0f369c7", "00000001248"}[random.nextInt(6)];
            made += 17;
            x.wipe();
            m.text.setLength(0);
            for (int i = 0; i < 16; i++) {
                char sign = signs.charAt(random.nextInt(signs.length()));
                m.text.append(sign);
                x.write(1, sign);
            }
            told.append("text is ").append(m.text).append('\n');
        }

        void figureCall(int which) {
            int f = number(0, 7);
            long cells = known(f) ? m.figures[f] : 0;
            int cell = number(0, 63), eighths = number(0, 7);
            boolean on = random.nextInt(3) > 0;
            switch (which) {
                case 8: case 9: {
                    int want = -1;
                    if (known(f) && cell >= 0 && cell < 64) {
                        want = has(cells, cell) == on ? 0 : 1;
                        if (want == 1) m.figures[f] ^= 1L << cell;
                    }
                    due("set(" + f + ", " + cell + ", " + on + ")", x.set(f, cell, on), want);
                    break;
                }
                case 10: due("size(" + f + ")", x.size(f), known(f) ? Long.bitCount(cells) : -1); break;
                case 11: due("parts(" + f + ")", x.parts(f), known(f) ? partsOf(cells).size() : -1); break;
                case 12: due("holes(" + f + ")", x.holes(f), known(f) ? holesOf(cells) : -1); break;
                case 13: due("edges(" + f + ", " + on + ")", x.edges(f, on), known(f) ? edgesOf(cells, on) : -1); break;
                case 14: case 15:
                    due("corners(" + f + ", " + eighths + ")", x.corners(f, eighths),
                            !known(f) ? -1 : eighths < 0 || eighths > 7 ? -2 : cornersOf(cells, eighths));
                    break;
                case 16: due("convex(" + f + ")", x.convex(f), known(f) ? convexOf(cells) : -1); break;
                default: due("figure(" + f + ")", x.figure(f), cells); break;
            }
        }

        void moveCall(int which) {
            int f = number(0, 7), other = number(0, 7), one = number(0, 7);
            long cells = known(f) ? m.figures[f] : 0;
            int kind = number(0, 3), at = number(kind == 2 ? -4 : 0, kind == 3 ? 8 : 4);
            String line = f + ", " + kind + ", " + at;
            switch (which) {
                case 18: {
                    int t = number(0, 7);
                    int want = !known(f) ? -1 : t < 0 || t > 7 ? -2 : turnedBy(cells, t) != cells ? 1 : 0;
                    if (want >= 0) m.figures[f] = turnedBy(cells, t);
                    due("turn(" + f + ", " + t + ")", x.turn(f, t), want);
                    break;
                }
                case 19: {
                    int dx = number(-3, 3), dy = number(-3, 3);
                    if (random.nextBoolean()) dx = Integer.signum(dx);
                    if (random.nextBoolean()) dy = Integer.signum(dy);
                    int want = !known(f) ? -1 : Math.abs((long) dx) > 3 || Math.abs((long) dy) > 3 ? -2
                            : stays(cells, dx, dy) ? Long.bitCount(cells) : -3;
                    if (want >= 0) m.figures[f] = shiftedBy(cells, dx, dy);
                    due("shift(" + f + ", " + dx + ", " + dy + ")", x.shift(f, dx, dy), want);
                    break;
                }
                case 20: due("form(" + f + ")", x.form(f), known(f) ? formOf(cells) : 0); break;
                case 21:
                    due("like(" + f + ", " + other + ")", x.like(f, other), !known(f) || !known(other) ? -1
                            : allLike(cells, 8).contains(m.figures[other]) ? 1 : 0);
                    break;
                case 22: due("itself(" + f + ")", x.itself(f), known(f) ? itselfOf(cells) : -1); break;
                case 23: case 24: {
                    int what = number(0, 3);
                    int want = !known(f) || !known(one) || !known(other) ? -1 : what < 0 || what > 3 ? -2 : 0;
                    if (want == 0) {
                        long to = 0;
                        for (int cell = 0; cell < 64; cell++) {
                            boolean a = has(m.figures[one], cell), b = has(m.figures[other], cell);
                            boolean in = what == 0 ? a || b : what == 1 ? a && b : what == 2 ? a && !b : a != b;
                            if (in) to |= 1L << cell;
                        }
                        m.figures[f] = to;
                        want = Long.bitCount(to);
                    }
                    due("both(" + f + ", " + what + ", " + one + ", " + other + ")", x.both(f, what, one, other), want);
                    break;
                }
                case 25:
                    due("ahead(" + line + ")", x.ahead(f, kind, at),
                            !known(f) ? -1 : !isLine(kind, at) ? -2 : sideOf(cells, kind, at));
                    break;
                case 26: {
                    int want = !known(f) ? -1 : !isLine(kind, at) ? -2 : 0;
                    if (want == 0) {
                        long side = aheadOf(cells, kind, at);
                        want = partsOf(side).size() + partsOf(cells & ~side).size();
                    }
                    due("cut(" + line + ")", x.cut(f, kind, at), want);
                    break;
                }
                case 27: due("halves(" + f + ")", x.halves(f), known(f) ? halvesOf(cells) : -1); break;
                case 28: {
                    int want = !known(f) || !known(other) ? -1 : !isLine(kind, at) ? -2 : f == other ? -3 : 0;
                    if (want == 0) {
                        m.figures[f] = aheadOf(cells, kind, at);
                        m.figures[other] = cells & ~m.figures[f];
                        want = Long.bitCount(m.figures[other]);
                    }
                    due("split(" + line + ", " + other + ")", x.split(f, kind, at, other), want);
                    break;
                }
                default: {
                    int i = number(0, 3);
                    int want = !known(f) || !known(other) ? -1 : -3;
                    if (want == -3) {
                        List<Long> parts = partsOf(m.figures[other]);
                        if (i >= 0 && i < parts.size()) {
                            m.figures[f] = parts.get(i);
                            want = Long.bitCount(m.figures[f]);
                        }
                    }
                    due("part(" + f + ", " + other + ", " + i + ")", x.part(f, other, i), want);
                    break;
                }
            }
        }

        void pieceCall(int which) {
            int f = number(0, 7), p = number(0, 3);
            long cells = known(f) ? m.figures[f] : 0;
            boolean isPiece = p >= 0 && p < m.pieces.size();
            boolean on = random.nextBoolean();
            switch (which) {
                case 30: {
                    int want = !known(f) ? -1 : cells == 0 ? -3 : m.pieces.size() == 4 ? -4 : m.pieces.size();
                    if (want >= 0) {
                        m.pieces.add(cells);
                        m.leave.add(on);
                    }
                    due("lay(" + f + ", " + on + ")", x.lay(f, on), want);
                    break;
                }
                case 31: {
                    int last = m.pieces.size() - 1;
                    if (last >= 0) {
                        m.pieces.remove(last);
                        m.leave.remove(last);
                    }
                    due("lift()", x.lift(), last < 0 ? -3 : last);
                    break;
                }
                case 32: due("piece(" + p + ")", x.piece(p), isPiece ? m.pieces.get(p) : 0); break;
                case 33:
                    due("places(" + p + ", " + f + ")", x.places(p, f),
                            isPiece && known(f) ? m.spots(p, cells).size() : -1);
                    break;
                case 34: {
                    List<Long> spots = isPiece ? m.spots(p, cells) : new ArrayList<>();
                    due("place(" + p + ", " + f + ")", x.place(p, f), spots.isEmpty() ? 0 : spots.get(0));
                    break;
                }
                case 35: due("ways(" + f + ")", x.ways(f), known(f) ? m.ways(cells).size() : -1); break;
                case 36: {
                    List<long[]> ways = known(f) && isPiece ? m.ways(cells) : new ArrayList<>();
                    due("first(" + f + ", " + p + ")", x.first(f, p), ways.isEmpty() ? 0 : ways.get(0)[p]);
                    break;
                }
                default: {
                    int want = 0;
                    for (int q = 0; q < m.pieces.size(); q++) if (m.spots(q, cells).isEmpty()) want |= 1 << q;
                    due("idle(" + f + ")", x.idle(f), known(f) ? want : -1);
                    break;
                }
            }
        }

        void otherCall(int which) {
            int f = number(0, 7), slot = number(0, 1);
            long cells = known(f) ? m.figures[f] : 0;
            List<Integer> growth = growthOf(cells);
            switch (which) {
                case 38: due("grown(" + f + ")", x.grown(f), known(f) ? growth.size() : -1); break;
                case 39: {
                    Set<Long> forms = new HashSet<>();
                    for (int cell : growth) forms.add(formOf(cells | 1L << cell));
                    due("forms(" + f + ")", x.forms(f), known(f) ? forms.size() : -1);
                    break;
                }
                case 40: {
                    int i = number(0, 5);
                    int want = !known(f) ? -1 : i >= 0 && i < growth.size() ? growth.get(i) : -9;
                    if (want >= 0) m.figures[f] |= 1L << want;
                    due("grow(" + f + ", " + i + ")", x.grow(f, i), want);
                    break;
                }
                case 41: {
                    boolean isSlot = slot == 0 || slot == 1;
                    if (isSlot) {
                        m.keptFigures[slot] = m.figures.clone();
                        m.keptPieces.set(slot, new ArrayList<>(m.pieces));
                        m.keptLeave.set(slot, new ArrayList<>(m.leave));
                    }
                    due("keep(" + slot + ")", x.keep(slot), isSlot ? m.filled() : -1);
                    break;
                }
                case 42: {
                    int want = slot != 0 && slot != 1 ? -1 : m.keptFigures[slot] == null ? -3 : 0;
                    if (want == 0) {
                        m.figures = m.keptFigures[slot].clone();
                        m.pieces = new ArrayList<>(m.keptPieces.get(slot));
                        m.leave = new ArrayList<>(m.keptLeave.get(slot));
                        want = m.filled();
                    }
                    due("again(" + slot + ")", x.again(slot), want);
                    break;
                }
                default: {
                    int what = number(0, 3);
                    int all = 0;
                    for (long figure : m.figures) all += Long.bitCount(figure);
                    int want = what == 0 ? m.text.length() : what == 1 ? m.pieces.size() : what == 2 ? m.filled()
                            : what == 3 ? all : -2;
                    due("count(" + what + ")", x.count(what), want);
                    break;
                }
            }
        }

        /** A figure is broken into pieces, these are turned and shifted, and laid: so there are ways. */
        void jigsaw() {
            int many = 1 + random.nextInt(4);
            for (int cell = 0; cell < 64; cell++) give(0, cell, random.nextInt(100) < 5 + number % 96);
            breakUp(many);
            for (int f = 1; f <= many && wrong < 20; f++) {
                int t = random.nextInt(8), dx = random.nextInt(3) - 1, dy = random.nextInt(3) - 1;
                boolean leave = random.nextBoolean();
                m.figures[f] = turnedBy(m.figures[f], t);
                x.turn(f, t);
                if (stays(m.figures[f], dx, dy)) m.figures[f] = shiftedBy(m.figures[f], dx, dy);
                x.shift(f, dx, dy);
                if (m.figures[f] != 0) {
                    m.pieces.add(m.figures[f]);
                    m.leave.add(leave);
                }
                told.append("figure(" + f + ") = " + x.figure(f) + "L, laid " + leave + "\n");
                x.lay(f, leave);
            }
            List<long[]> ways = m.ways(m.figures[0]);
            due("ways(0)", x.ways(0), ways.size());
            for (int p = 0; p < m.pieces.size(); p++) {
                due("first(0, " + p + ")", x.first(0, p), ways.isEmpty() ? 0 : ways.get(0)[p]);
                due("places(" + p + ", 0)", x.places(p, 0), m.spots(p, m.figures[0]).size());
            }
        }

        void give(int figure, int cell, boolean on) {
            x.set(figure, cell, on);
            long bit = 1L << cell;
            m.figures[figure] = on ? m.figures[figure] | bit : m.figures[figure] & ~bit;
        }

        void breakUp(int many) {
            int bySquares = random.nextInt(3);
            int salt = random.nextInt();
            for (int cell = 0; cell < 64; cell++) {
                int group = bySquares == 0 ? cell / 8 % many : bySquares == 1 ? cell / 16 % many
                        : new Random(salt + cell / 4).nextInt(many);
                if (has(m.figures[0], cell)) give(1 + group, cell, true);
            }
        }
    }
}
