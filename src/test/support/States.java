import java.util.ArrayList;
import java.util.List;

/** Objects in several states, and checks of what a call leaves as it was in all of them. */
abstract class States extends Checks {
    static final int LOW = Integer.MIN_VALUE, HIGH = Integer.MAX_VALUE;
    static final long SIGN = Long.MIN_VALUE;
    static final String ALL = "ffff ffff ffff ffff";
    static final String LAST_CELL = "0000 0000 0000 0008";
    /** Upper and lower, right and left by turns: no two cells are neighbours, and each other cell is one of theirs. */
    static final String LOOSE = "a5a5 5a5a a5a5 5a5a";
    /** An l of four squares, which is not its mirror. */
    static final String ELL = "f000 f000 ff00", MIRRORED_ELL = "0f00 0f00 ff00";
    static final String[] STATES = {"new", "busy", "crowded", "faulty"};
    static final int NEW = 0, BUSY = 1, CROWDED = 2, FAULTY = 3;

    private static final String[] UNTOUCHED = new String[STATES.length];

    interface Call {
        long on(HalfAndHalfAgain x);
    }

    interface Numbered {
        long on(HalfAndHalfAgain x, int n);
    }

    interface Maker {
        HalfAndHalfAgain make();
    }

    static String untouched(int state) {
        if (UNTOUCHED[state] == null) UNTOUCHED[state] = tell(make(state));
        return UNTOUCHED[state];
    }

    static String repeated(char sign, int times) {
        return String.valueOf(sign).repeat(times);
    }

    static HalfAndHalfAgain make(int state) {
        if (state == BUSY) return busy();
        if (state == CROWDED) return crowded();
        if (state == FAULTY) return faulty();
        return new HalfAndHalfAgain();
    }

    /** A text that is a word, figures of many kinds, two pieces and one slot. */
    static HalfAndHalfAgain busy() {
        HalfAndHalfAgain x = drawn("0000 0100", ELL);
        x.lay(1, true);
        x.keep(1);
        x.lift();
        x.lay(0, true);
        x.lay(1, false);
        draw(x, 0, MIRRORED_ELL);
        draw(x, 3, ALL);
        draw(x, 4, LAST_CELL);
        draw(x, 5, LOOSE);
        draw(x, 7, "0370 0000 0010");
        put(x, "0123456789abcdef");
        return x;
    }

    /** No figure is empty, there are four pieces, both slots have been used, the text is short. */
    static HalfAndHalfAgain crowded() {
        HalfAndHalfAgain x = drawn(ELL, MIRRORED_ELL, "1", LAST_CELL, "0280", "f", "6c00 3900", ALL);
        x.keep(0);
        x.lay(2, false);
        x.lay(0, true);
        x.lay(0, false);
        x.lay(1, false);
        x.keep(1);
        x.set(4, 33, true);
        put(x, "00f00");
        return x;
    }

    static HalfAndHalfAgain faulty() {
        HalfAndHalfAgain x = drawn("3", "c000 0000 0000 000c");
        x.lay(0, false);
        put(x, "0123g");
        return x;
    }

    /** All that can be learnt of an object: figures, pieces, their leave, the text, and the same of each slot. */
    static String tell(HalfAndHalfAgain x) {
        StringBuilder told = new StringBuilder();
        tellKept(x, told);
        told.append("text ").append(x.count(0)).append(' ').append(x.fault());
        while (x.fault() == x.count(0) && x.count(0) < 16) x.write(1, '0');
        told.append(' ').append(x.word(0)).append(' ').append(x.figure(0)).append('\n');
        for (int slot = 0; slot < 2; slot++) {
            told.append("slot ").append(x.again(slot)).append('\n');
            tellKept(x, told);
        }
        return told.toString();
    }

    static void tellKept(HalfAndHalfAgain x, StringBuilder told) {
        for (int f = 0; f < 8; f++) told.append(x.figure(f)).append(' ');
        for (int what = 1; what < 4; what++) told.append(x.count(what)).append(' ');
        for (int p = 0; p < 4; p++) {
            told.append(x.piece(p)).append(' ');
            for (int f = 0; f < 8; f++) told.append(x.places(p, f)).append(' ');
        }
        told.append('\n');
    }

    static void same(String what, String got, String want) {
        if (!got.equals(want)) fail(what + " changed what is told from\n" + want + "to\n" + got);
    }

    /** The call answers so, and all is as if it had not been made. */
    static void still(String what, Maker maker, long want, Call call) {
        HalfAndHalfAgain x = maker.make();
        due(what, call.on(x), want);
        same(what, tell(x), tell(maker.make()));
    }

    /** The call is refused so in each of the states, and all is as if it had not been made. */
    static void refused(String what, long want, Call call) {
        for (int state = 0; state < STATES.length; state++) {
            HalfAndHalfAgain x = make(state);
            due(what + ", " + STATES[state], call.on(x), want);
            same(what + ", " + STATES[state], tell(x), untouched(state));
        }
    }

    /** The call only asks: it answers twice the same, and changes nothing. */
    static void asks(String what, Call call) {
        for (int state = 0; state < STATES.length; state++) {
            HalfAndHalfAgain x = make(state);
            long answer = call.on(x);
            due(what + " a second time, " + STATES[state], call.on(x), answer);
            same(what + ", " + STATES[state], tell(x), untouched(state));
        }
    }

    /** The call changes these figures at the most: with them as they were, all is as it was. */
    static void changesAlone(String what, int state, Call call, int... figures) {
        HalfAndHalfAgain x = make(state), y = make(state);
        if (call.on(x) < 0) fail(what + " is refused, " + STATES[state]);
        for (int figure : figures) {
            long differ = x.figure(figure) ^ y.figure(figure);
            for (int cell = 0; cell < 64; cell++) {
                if ((differ >>> cell & 1) == 1) x.set(figure, cell, (y.figure(figure) >>> cell & 1) == 1);
            }
        }
        same(what + ", " + STATES[state], tell(x), untouched(state));
    }

    static List<Integer> beyond(int least, int greatest) {
        List<Integer> numbers = new ArrayList<>(List.of(least - 1, greatest + 1, LOW, LOW + 1, HIGH - 1, HIGH));
        for (int far : new int[] {2, 4, 8, 16, 64, 256, 65536}) {
            numbers.add(least - far);
            numbers.add(greatest + far);
        }
        return numbers;
    }

    /** The numbers from the least to the greatest are not refused so, all others are. */
    static void taken(String what, int least, int greatest, int refusal, Numbered call) {
        for (int n = least; n <= greatest; n++) {
            for (int state = 0; state < STATES.length; state++) {
                if (call.on(make(state), n) == refusal) fail(what + ": " + n + " is refused, " + STATES[state]);
            }
        }
        for (int n : beyond(least, greatest)) refused(what + ": " + n, refusal, x -> call.on(x, n));
    }

    static void figures(String what, Numbered call) {
        taken(what, 0, 7, UNKNOWN, call);
    }

    /** Calls that answer 0 if there is no such figure: they change nothing either. */
    static void noFigures(String what, Numbered call) {
        for (int n : beyond(0, 7)) refused(what + ": " + n, 0, x -> call.on(x, n));
    }
}
