import java.util.ArrayList;
import java.util.List;

/**
 * Which programs are valid, by the document's words: every order of the two branches is gone through,
 * for all small programs of a shape, and add must take or refuse the last command accordingly.
 */
public final class ValidityTest extends Bench {
    private static final int[] ROW_KINDS = {OPEN, CLOSE, READ};
    private static final int LONGEST_BESIDE_ONE = 4;
    private static final int LONGEST_BESIDE_TWO = 2;

    private static int taken = 0;
    private static int refused = 0;

    private ValidityTest() {
    }

    public static void main(String[] args) {
        Check.runAllOf(ValidityTest.class);
    }

    /** A command is {kind, cell}; bit c of open tells whether cell c is open. */
    private static boolean findsWhatItNeeds(int open, int[] command) {
        boolean isOpen = (open >> command[1] & 1) == 1;
        boolean sourceIsOpen = (open >> (command[1] + 1) % 3 & 1) == 1;
        switch (command[0]) {
            case OPEN: return !isOpen;
            case MOVE: return isOpen && sourceIsOpen;
            default: return isOpen;
        }
    }

    private static int openBehind(int open, int[] command) {
        switch (command[0]) {
            case OPEN: return open | 1 << command[1];
            case CLOSE: return open & ~(1 << command[1]);
            default: return open;
        }
    }

    private static boolean everyOrderIsFine(int open, List<int[]> one, List<int[]> two) {
        return (one.isEmpty() || isFineFirst(open, one, one, two)) && (two.isEmpty() || isFineFirst(open, two, one, two));
    }

    private static boolean isFineFirst(int open, List<int[]> first, List<int[]> one, List<int[]> two) {
        int[] command = first.get(0);
        List<int[]> rest = first.subList(1, first.size());
        return findsWhatItNeeds(open, command)
                && everyOrderIsFine(openBehind(open, command), first == one ? rest : one, first == two ? rest : two);
    }

    /** All rows of up to so many commands that a branch alone can do. */
    private static List<List<int[]>> rows(int open, int longest) {
        List<List<int[]>> all = new ArrayList<>();
        all.add(new ArrayList<>());
        if (longest == 0) {
            return all;
        }
        for (int kind : ROW_KINDS) {
            for (int cell = 0; cell < 3; cell++) {
                int[] command = {kind, cell};
                if (findsWhatItNeeds(open, command)) {
                    for (List<int[]> rest : rows(openBehind(open, command), longest - 1)) {
                        List<int[]> row = new ArrayList<>();
                        row.add(command);
                        row.addAll(rest);
                        all.add(row);
                    }
                }
            }
        }
        return all;
    }

    private static HistoryJudge program(int open, int branch, List<int[]> row, List<int[]> other) {
        HistoryJudge x = new HistoryJudge();
        for (int c = 0; c < 3; c++) {
            if ((open >> c & 1) == 1) {
                x.add(0, OPEN, c, 0);
            }
        }
        for (int[] command : row) {
            x.add(branch, command[0], command[1], 0);
        }
        for (int[] command : other) {
            x.add(3 - branch, command[0], command[1], 0);
        }
        return x;
    }

    private static boolean tryLast(int open, int branch, List<int[]> row, List<int[]> other, int[] last) {
        List<int[]> longer = new ArrayList<>(other);
        longer.add(last);
        boolean due = everyOrderIsFine(open, row, longer);
        HistoryJudge x = program(open, branch, row, other);
        String call = "kind " + last[0] + " of cell " + last[1] + " behind " + other.size() + " in branch "
                + (3 - branch) + " beside " + told(row) + "with open cells " + open;
        if (due) {
            taken++;
            Check.is(call, x.add(3 - branch, last[0], last[1], 0) >= 0, true);
        } else {
            refused++;
            Check.fails(call, UNSUPPORTED, () -> x.add(3 - branch, last[0], last[1], 0));
        }
        return due;
    }

    private static String told(List<int[]> row) {
        StringBuilder text = new StringBuilder();
        for (int[] command : row) {
            text.append(command[0]).append('/').append(command[1]).append(' ');
        }
        return text.toString();
    }

    private static List<int[]> allCommands() {
        List<int[]> all = new ArrayList<>();
        for (int kind = 0; kind < 7; kind++) {
            for (int cell = 0; cell < 3; cell++) {
                all.add(new int[] {kind, cell});
            }
        }
        return all;
    }

    private static void oneCommandBesideARow() {
        for (int open = 0; open < 8; open++) {
            for (List<int[]> row : rows(open, LONGEST_BESIDE_ONE)) {
                for (int[] last : allCommands()) {
                    tryLast(open, 1, row, List.of(), last);
                    tryLast(open, 2, row, List.of(), last);
                }
            }
        }
        Check.is("both happened", taken > 0 && refused > 0, true);
    }

    private static void twoCommandsBesideARow() {
        for (int open = 0; open < 8; open++) {
            for (List<int[]> row : rows(open, LONGEST_BESIDE_TWO)) {
                for (int[] first : allCommands()) {
                    for (int branch = 1; branch < 3; branch++) {
                        if (tryLast(open, branch, row, List.of(), first)) {
                            for (int[] last : allCommands()) {
                                tryLast(open, branch, row, List.of(first), last);
                            }
                        }
                    }
                }
            }
        }
    }

    /** What comes last in the prefix comes before all that is in the branches. */
    private static void onePrefixCommandBeforeBranches() {
        for (int open = 0; open < 8; open++) {
            for (List<int[]> row : rows(open, LONGEST_BESIDE_TWO)) {
                for (int[] beside : allCommands()) {
                    if (everyOrderIsFine(open, row, List.of(beside))) {
                        for (int[] last : allCommands()) {
                            tryPrefix(open, 1, row, beside, last);
                            tryPrefix(open, 2, row, beside, last);
                        }
                    }
                }
            }
        }
    }

    private static void tryPrefix(int open, int branch, List<int[]> row, int[] beside, int[] last) {
        boolean due = findsWhatItNeeds(open, last) && everyOrderIsFine(openBehind(open, last), row, List.of(beside));
        HistoryJudge x = program(open, branch, row, List.of(beside));
        String call = "kind " + last[0] + " of cell " + last[1] + " in the prefix before " + told(row) + "and "
                + told(List.of(beside)) + "with open cells " + open;
        if (due) {
            Check.is(call, x.add(0, last[0], last[1], 0), Integer.bitCount(open));
        } else {
            Check.fails(call, UNSUPPORTED, () -> x.add(0, last[0], last[1], 0));
        }
    }
}
