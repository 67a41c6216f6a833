import java.math.BigInteger;
import java.util.ArrayList;
import java.util.List;
import java.util.NoSuchElementException;

/** What the tests share: the names of kinds and exceptions, small programs, and the drawing. */
class Bench {
    static final int NONE = HistoryJudge.NONE;

    static final int OPEN = 0;
    static final int CLOSE = 1;
    static final int READ = 2;
    static final int WRITE = 3;
    static final int ADD = 4;
    static final int SWAP = 5;
    static final int MOVE = 6;

    static final int LOWEST = Integer.MIN_VALUE;
    static final int HIGHEST = Integer.MAX_VALUE;

    static final Class<IllegalArgumentException> ARGUMENT = IllegalArgumentException.class;
    static final Class<IllegalStateException> STATE = IllegalStateException.class;
    static final Class<UnsupportedOperationException> UNSUPPORTED = UnsupportedOperationException.class;
    static final Class<IndexOutOfBoundsException> INDEX = IndexOutOfBoundsException.class;
    static final Class<NoSuchElementException> ELEMENT = NoSuchElementException.class;

    /** The document's drawing in numbers without a bound, so that each wrap is written out. */
    static final class Drawing {
        private static final BigInteger WRAP = BigInteger.ONE.shiftLeft(64);
        private static final BigInteger FACTOR = new BigInteger("6364136223846793005");
        private static final BigInteger MORE = new BigInteger("1442695040888963407");
        private BigInteger state;

        Drawing(long seed) {
            state = BigInteger.valueOf(seed).mod(WRAP);
        }

        int below(int n) {
            state = state.multiply(FACTOR).add(MORE).mod(WRAP);
            return state.shiftRight(33).mod(BigInteger.valueOf(n)).intValueExact();
        }

        int schedule() {
            return below(2147483647);
        }
    }

    /** A schedule from a text of branches: the first letter is that of moment 0. */
    static int schedule(String branches) {
        int bits = 0;
        for (int m = 0; m < branches.length(); m++) {
            if (branches.charAt(m) == '2') {
                bits |= 1 << m;
            }
        }
        return bits;
    }

    /** With flaw 1 one of the ADDs can be lost. */
    static HistoryJudge twoAdds() {
        HistoryJudge x = new HistoryJudge();
        x.add(0, OPEN, 0, 5);
        x.add(1, ADD, 0, 3);
        x.add(2, ADD, 0, 1);
        return x;
    }

    /** Two in the prefix (0, 1), two in branch 1 (2, 3), two in branch 2 (4, 5). */
    static HistoryJudge twoOfEach() {
        HistoryJudge x = new HistoryJudge();
        x.add(0, OPEN, 0, 5);
        x.add(0, READ, 0, 0);
        x.add(1, READ, 0, 1);
        x.add(1, READ, 0, 2);
        x.add(2, READ, 0, 3);
        x.add(2, READ, 0, 4);
        return x;
    }

    /** 6 in the prefix, 4 in each branch; all but the first are of one kind, which a cell's opening does for. */
    static HistoryJudge full(int kind) {
        HistoryJudge x = new HistoryJudge();
        x.add(0, OPEN, 0, 0);
        for (int n = 1; n < 6; n++) {
            x.add(0, kind, 0, 1);
        }
        for (int n = 0; n < 4; n++) {
            x.add(1, kind, 0, 1);
            x.add(2, kind, 0, 1);
        }
        return x;
    }

    /** Draws a program as the document says, with add alone, which refuses what is not valid. */
    static void addDrawn(HistoryJudge y, long seed, int... wanted) {
        Drawing drawing = new Drawing(seed);
        int[] sizes = new int[3];
        for (int branch = 0; branch < 3; branch++) {
            for (int n = 0; n < wanted[branch]; n++) {
                for (int tries = 0; tries < 20; tries++) {
                    if (addOneDrawn(y, drawing, branch, sizes)) {
                        sizes[branch]++;
                        break;
                    }
                }
            }
        }
    }

    private static boolean addOneDrawn(HistoryJudge y, Drawing drawing, int branch, int[] sizes) {
        int kind = drawing.below(7);
        int cell = drawing.below(3);
        List<Integer> known = known(branch, sizes);
        boolean standsFor = drawing.below(4) == 0 && !known.isEmpty();
        int argument = standsFor ? 8 + known.get(drawing.below(known.size())) : drawing.below(8);
        try {
            y.add(branch, kind, cell, argument);
            return true;
        } catch (UnsupportedOperationException e) {
            return false;
        }
    }

    private static List<Integer> known(int branch, int[] sizes) {
        List<Integer> numbers = new ArrayList<>();
        int number = 0;
        for (int b = 0; b < 3; b++) {
            for (int n = 0; n < sizes[b]; n++) {
                if (b == 0 || b == branch) {
                    numbers.add(number);
                }
                number++;
            }
        }
        return numbers;
    }

    static void commandIs(HistoryJudge x, int i, int branch, int kind, int cell, int argument) {
        Check.is("command(" + i + ", 0)", x.command(i, 0), branch);
        Check.is("command(" + i + ", 1)", x.command(i, 1), kind);
        Check.is("command(" + i + ", 2)", x.command(i, 2), cell);
        Check.is("command(" + i + ", 3)", x.command(i, 3), argument);
    }

    static void eventIs(HistoryJudge x, int i, int answer, int number, int call, int back) {
        Check.is("event(" + i + ", 0)", x.event(i, 0), answer);
        Check.is("event(" + i + ", 1)", x.event(i, 1), number);
        Check.is("event(" + i + ", 2)", x.event(i, 2), call);
        Check.is("event(" + i + ", 3)", x.event(i, 3), back);
    }

    static void orderIs(HistoryJudge x, int... due) {
        for (int k = 0; k < due.length; k++) {
            Check.is("order(" + k + ")", x.order(k), due[k]);
        }
        Check.fails("order behind the last", ELEMENT, () -> x.order(due.length));
    }

    static String commandsOf(HistoryJudge x) {
        StringBuilder text = new StringBuilder();
        int commands = x.count(0);
        for (int i = 0; i < commands; i++) {
            for (int what = 0; what < 4; what++) {
                text.append(x.command(i, what)).append(what < 3 ? ' ' : ',');
            }
        }
        return text.toString();
    }

    /** What event, order and cell tell; one index beyond the last, so that a refusal is told too. */
    static String latestRunOf(HistoryJudge x) {
        StringBuilder text = new StringBuilder();
        int commands = x.count(0);
        for (int i = 0; i <= commands; i++) {
            int at = i;
            for (int w = 0; w < 4; w++) {
                int what = w;
                text.append(Check.outcome(() -> x.event(at, what))).append(' ');
            }
        }
        for (int k = 0; k <= 8; k++) {
            int at = k;
            text.append(Check.outcome(() -> x.order(at))).append(' ');
        }
        for (int c = 0; c < 3; c++) {
            int at = c;
            text.append(Check.outcome(() -> x.cell(at))).append(' ');
        }
        return text.toString();
    }

    static String countsOf(HistoryJudge x) {
        StringBuilder text = new StringBuilder();
        for (int what = 0; what < 4; what++) {
            text.append(x.count(what)).append(' ');
        }
        for (int kind = 0; kind < 7; kind++) {
            text.append(x.tally(kind)).append(' ');
        }
        return text.toString();
    }

    /** All that an object can tell without a change, in at most 160 calls. */
    static String allOf(HistoryJudge x) {
        int flaws = x.flaws(0);
        x.flaws(flaws);
        return commandsOf(x) + " | " + latestRunOf(x) + " | " + countsOf(x) + " | " + flaws;
    }
}
