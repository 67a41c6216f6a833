/** Each promise of the document by runs of calls whose answers were worked out by hand. */
public final class PromisesTest extends Bench {
    private PromisesTest() {
    }

    public static void main(String[] args) {
        Check.runAllOf(PromisesTest.class);
    }

    private static void newObject() {
        HistoryJudge x = new HistoryJudge();
        Check.is("NONE", HistoryJudge.NONE, -1);
        for (int what = 0; what < 4; what++) {
            Check.is("new count", x.count(what), 0);
        }
        for (int kind = 0; kind < 7; kind++) {
            Check.is("new tally", x.tally(kind), 0);
        }
        Check.fails("new command", INDEX, () -> x.command(0, 0));
        Check.fails("new event", INDEX, () -> x.event(0, 0));
        Check.fails("new order", STATE, () -> x.order(0));
        Check.fails("new cell", STATE, () -> x.cell(0));
        Check.is("new flaws", x.flaws(0), 0);
        Check.is("new clear", x.clear(), 0);
        Check.is("run of nothing", x.run(2147483647), true);
        Check.is("cell of nothing", x.cell(2), 0);
        Check.fails("order of nothing", ELEMENT, () -> x.order(0));
        Check.is("fails of nothing", x.fails(0, 50), HistoryJudge.NONE);
    }

    private static void addNumbersAndArguments() {
        HistoryJudge x = new HistoryJudge();
        Check.is("add prefix", x.add(0, OPEN, 0, 7), 0);
        Check.is("add branch 2", x.add(2, READ, 0, 8), 1);
        Check.is("add branch 2", x.add(2, WRITE, 0, 9), 2);
        Check.is("add branch 1", x.add(1, ADD, 0, 8), 1);
        commandIs(x, 2, 2, READ, 0, 8);
        commandIs(x, 3, 2, WRITE, 0, 10);
        Check.is("add branch 1", x.add(1, SWAP, 0, 9), 2);
        commandIs(x, 4, 2, WRITE, 0, 11);
        Check.is("add prefix", x.add(0, READ, 0, 8), 1);
        commandIs(x, 0, 0, OPEN, 0, 7);
        commandIs(x, 1, 0, READ, 0, 8);
        commandIs(x, 2, 1, ADD, 0, 8);
        commandIs(x, 3, 1, SWAP, 0, 10);
        commandIs(x, 4, 2, READ, 0, 8);
        commandIs(x, 5, 2, WRITE, 0, 12);
        Check.is("count(0)", x.count(0), 6);
    }

    private static void addRefusals() {
        HistoryJudge x = new HistoryJudge();
        x.add(0, OPEN, 0, 7);
        x.add(1, READ, 0, 0);
        x.add(2, READ, 0, 0);
        x.run(0);
        Check.fails("add branch -1", ARGUMENT, () -> x.add(-1, READ, 0, 0));
        Check.fails("add branch 3", ARGUMENT, () -> x.add(3, READ, 0, 0));
        Check.fails("add kind -1", ARGUMENT, () -> x.add(0, -1, 0, 0));
        Check.fails("add kind 7", ARGUMENT, () -> x.add(0, 7, 0, 0));
        Check.fails("add cell -1", ARGUMENT, () -> x.add(0, READ, -1, 0));
        Check.fails("add cell 3", ARGUMENT, () -> x.add(0, READ, 3, 0));
        Check.fails("add argument -1", ARGUMENT, () -> x.add(0, READ, 0, -1));
        Check.fails("add argument low", ARGUMENT, () -> x.add(0, READ, 0, Integer.MIN_VALUE));
        Check.fails("add argument high", ARGUMENT, () -> x.add(0, READ, 0, Integer.MAX_VALUE));
        Check.fails("prefix stands for itself", ARGUMENT, () -> x.add(0, READ, 0, 9));
        Check.fails("1 stands for 2", ARGUMENT, () -> x.add(1, READ, 0, 10));
        Check.fails("2 stands for 1", ARGUMENT, () -> x.add(2, READ, 0, 9));
        Check.fails("2 stands for itself", ARGUMENT, () -> x.add(2, READ, 0, 11));
        Check.fails("argument goes before validity", ARGUMENT, () -> x.add(0, OPEN, 0, 8 + 7));
        Check.is("count(0) behind refusals", x.count(0), 3);
        Check.is("event behind refusals", x.event(1, 0), 7);
        Check.is("the last that may be", x.add(2, READ, 0, 10), 3);
    }

    private static void addValidity() {
        for (int kind = CLOSE; kind <= MOVE; kind++) {
            int k = kind;
            HistoryJudge x = new HistoryJudge();
            Check.fails("closed cell, kind " + k, UNSUPPORTED, () -> x.add(0, k, 0, 0));
            x.add(0, OPEN, 1, 0);
            Check.fails("other cell, kind " + k, UNSUPPORTED, () -> x.add(0, k, 0, 0));
            x.add(0, OPEN, 0, 0);
            Check.is("open cell, kind " + k, x.add(0, k, 0, 0), 2);
        }
        HistoryJudge x = new HistoryJudge();
        x.add(0, OPEN, 2, 0);
        Check.fails("open twice", UNSUPPORTED, () -> x.add(0, OPEN, 2, 0));
        Check.fails("move without its source", UNSUPPORTED, () -> x.add(0, MOVE, 2, 0));
        x.add(1, OPEN, 0, 0);
        Check.fails("cell may not be open yet", UNSUPPORTED, () -> x.add(2, READ, 0, 0));
        Check.fails("cell may be open", UNSUPPORTED, () -> x.add(2, OPEN, 0, 0));
        Check.fails("prefix opens what 1 opens", UNSUPPORTED, () -> x.add(0, OPEN, 0, 0));
        Check.is("1 goes on", x.add(1, MOVE, 2, 0), 2);
        Check.fails("source may be closed", UNSUPPORTED, () -> x.add(2, CLOSE, 2, 0));
        Check.fails("prefix closes what 1 uses", UNSUPPORTED, () -> x.add(0, CLOSE, 2, 0));
        x.run(0);
        Check.fails("again", UNSUPPORTED, () -> x.add(0, CLOSE, 2, 0));
        Check.is("event behind a refusal", x.event(1, 2), 0);
        Check.is("count(0) behind refusals", x.count(0), 3);
    }

    private static void addRoom() {
        HistoryJudge x = new HistoryJudge();
        x.add(0, OPEN, 0, 0);
        for (int n = 1; n < 6; n++) {
            Check.is("prefix " + n, x.add(0, READ, 0, 0), n);
        }
        Check.fails("prefix is full", STATE, () -> x.add(0, READ, 0, 0));
        Check.fails("full goes before validity", STATE, () -> x.add(0, OPEN, 0, 0));
        Check.fails("argument goes before full", ARGUMENT, () -> x.add(0, READ, 0, 14));
        for (int n = 0; n < 4; n++) {
            Check.is("branch 2 " + n, x.add(2, READ, 0, 0), 6 + n);
        }
        Check.fails("branch 2 is full", STATE, () -> x.add(2, READ, 0, 0));
        for (int n = 0; n < 4; n++) {
            Check.is("branch 1 " + n, x.add(1, READ, 0, 0), 6 + n);
        }
        Check.fails("branch 1 is full", STATE, () -> x.add(1, READ, 0, 0));
        Check.is("all full", x.count(0), 14);
    }

    private static void clear() {
        HistoryJudge x = twoAdds();
        x.flaws(1);
        x.run(0);
        Check.is("clear", x.clear(), 3);
        Check.is("clear again", x.clear(), 0);
        Check.is("count(0)", x.count(0), 0);
        Check.is("count(1) stays", x.count(1), 1);
        Check.is("tally stays", x.tally(ADD), 2);
        Check.is("flaws stay", x.flaws(1), 1);
        Check.fails("order behind clear", STATE, () -> x.order(0));
        Check.is("add behind clear", x.add(2, OPEN, 0, 0), 0);
    }

    private static void make() {
        HistoryJudge x = new HistoryJudge();
        Check.is("make(7, 6, 4, 4)", x.make(7L, 6, 4, 4), 14);
        x.run(0);
        Check.fails("p -1", ARGUMENT, () -> x.make(1L, -1, 0, 0));
        Check.fails("p 7", ARGUMENT, () -> x.make(1L, 7, 0, 0));
        Check.fails("a -1", ARGUMENT, () -> x.make(1L, 0, -1, 0));
        Check.fails("a 5", ARGUMENT, () -> x.make(1L, 0, 5, 0));
        Check.fails("b -1", ARGUMENT, () -> x.make(1L, 0, 0, -1));
        Check.fails("b 5", ARGUMENT, () -> x.make(1L, 0, 0, 5));
        Check.is("refusals change nothing", x.count(0), 14);
        Check.is("event behind refusals", x.event(0, 2), HistoryJudge.NONE);
        x.flaws(9);
        Check.is("make of nothing", x.make(1L, 0, 0, 0), 0);
        Check.is("count(0)", x.count(0), 0);
        Check.fails("order behind make", STATE, () -> x.order(0));
        Check.is("flaws stay", x.flaws(9), 9);
        Check.is("runs stay", x.count(1), 1);
    }

    /** Tries draw by draw what make must do, by the document's words and by add alone. */
    private static void makeLeavesOut() {
        boolean leftOut = false;
        for (long seed = -40; seed < 40; seed++) {
            HistoryJudge x = new HistoryJudge();
            HistoryJudge y = new HistoryJudge();
            int made = x.make(seed, 4, 4, 4);
            addDrawn(y, seed, 4, 4, 4);
            Check.is("make by seed " + seed, made, y.count(0));
            Check.same("commands by seed " + seed, commandsOf(x), commandsOf(y));
            leftOut |= made < 12;
        }
        Check.is("a command was left out", leftOut, true);
    }

    private static void flaws() {
        HistoryJudge x = twoAdds();
        Check.is("flaws(15)", x.flaws(15), 0);
        Check.fails("flaws(16)", ARGUMENT, () -> x.flaws(16));
        Check.fails("flaws(-1)", ARGUMENT, () -> x.flaws(-1));
        Check.is("flaws(3)", x.flaws(3), 15);
        x.run(0);
        Check.is("flaws(0)", x.flaws(0), 3);
        Check.is("the latest run stays", x.event(1, 3), 3);
        x.run(0);
        Check.is("without flaws", x.event(1, 3), 2);
    }

    private static void runWithoutFlaws() {
        HistoryJudge x = twoAdds();
        Check.fails("run(-1)", ARGUMENT, () -> x.run(-1) ? 1 : 0);
        Check.fails("run(lowest)", ARGUMENT, () -> x.run(Integer.MIN_VALUE) ? 1 : 0);
        Check.is("refused runs do not count", x.count(1), 0);
        Check.fails("a refused run is no run", STATE, () -> x.event(0, 0));
        Check.is("run", x.run(schedule("121212")), true);
        Check.is("1 answers", x.event(1, 0), 0);
        Check.is("2 answers", x.event(2, 0), 1);
        Check.is("1 calls", x.event(1, 2), 0);
        Check.is("1 returns", x.event(1, 3), 4);
        Check.is("2 calls", x.event(2, 2), 1);
        Check.is("2 returns", x.event(2, 3), 5);
        orderIs(x, 1, 2);
        Check.is("run", x.run(schedule("122121")), true);
        Check.is("2 answers first", x.event(2, 0), 6);
        orderIs(x, 2, 1);
        Check.is("only the bits of moments count", x.run(Integer.MAX_VALUE), true);
        Check.is("2 before 1", x.event(1, 2), 3);
    }

    private static void runSplitAdd() {
        HistoryJudge x = twoAdds();
        x.flaws(1);
        Check.is("noted both", x.run(schedule("12121212")), false);
        Check.is("1 answers", x.event(1, 0), 0);
        Check.is("2 answers", x.event(2, 0), 6);
        Check.is("cell", x.cell(0), 14);
        Check.fails("no order", ELEMENT, () -> x.order(0));
        x.flaws(14);
        Check.is("another flaw", x.run(schedule("12121212")), true);
        Check.is("1 returns", x.event(1, 3), 4);
    }

    private static void runSplitSwap() {
        HistoryJudge x = new HistoryJudge();
        x.add(0, OPEN, 2, 1);
        x.add(1, SWAP, 2, 2);
        x.add(2, SWAP, 2, 3);
        x.flaws(2);
        Check.is("noted both", x.run(schedule("12121212")), false);
        Check.is("1 answers", x.event(1, 0), 1);
        Check.is("2 answers", x.event(2, 0), 1);
        Check.is("cell", x.cell(2), 11);
        x.flaws(13);
        Check.is("another flaw", x.run(schedule("12121212")), true);
        Check.is("2 answers", x.event(2, 0), 2);
    }

    private static void runSplitMove() {
        HistoryJudge x = new HistoryJudge();
        x.add(0, OPEN, 2, 1);
        x.add(0, OPEN, 0, 2);
        x.add(1, MOVE, 2, 0);
        x.add(2, WRITE, 0, 5);
        x.add(2, WRITE, 2, 7);
        x.flaws(4);
        Check.is("a move alone shows nothing", x.run(schedule("1122222211")), true);
        Check.is("it answers what is there then", x.event(2, 0), 7);
        Check.is("it moves what it noted", x.cell(2), 10);
        Check.is("the source stays", x.cell(0), 13);
        orderIs(x, 3, 4, 2);
        x.add(1, READ, 2, 0);
        Check.is("a read shows it", x.run(schedule("1122222211")), false);
        Check.is("the read", x.event(3, 0), 2);
        x.flaws(11);
        Check.is("another flaw", x.run(schedule("1122222211")), true);
        Check.is("whole", x.event(2, 0), 1);
    }

    private static void runLateWrite() {
        HistoryJudge x = new HistoryJudge();
        x.add(0, OPEN, 0, 1);
        x.add(1, WRITE, 0, 6);
        x.add(1, READ, 0, 0);
        x.add(2, READ, 0, 0);
        x.flaws(8);
        Check.is("read between return and late", x.run(schedule("1112221111")), false);
        Check.is("the write answers", x.event(1, 0), 0);
        Check.is("the write returns", x.event(1, 3), 2);
        Check.is("the read of 2", x.event(3, 0), 1);
        Check.is("the late event is moment 6", x.event(2, 2), 7);
        Check.is("the read of 1", x.event(2, 0), 6);
        Check.is("cell", x.cell(0), 14);
        Check.is("read called before the return", x.run(schedule("1121221111")), true);
        orderIs(x, 3, 1, 2);
        x.flaws(7);
        Check.is("another flaw", x.run(schedule("1112221111")), true);
        Check.is("the read of 2", x.event(3, 0), 6);
    }

    private static void runPrefixIsWhole() {
        HistoryJudge x = new HistoryJudge();
        x.add(0, OPEN, 0, 3);
        x.add(0, OPEN, 1, 4);
        x.add(0, WRITE, 0, 9);
        x.add(0, ADD, 0, 6);
        x.add(0, MOVE, 0, 0);
        x.add(0, SWAP, 1, 8 + 3);
        x.flaws(15);
        Check.is("prefix alone", x.run(0), true);
        Check.is("write takes an answer", x.event(2, 1), 0);
        Check.is("add answers", x.event(3, 0), 6);
        Check.is("move answers", x.event(4, 0), 6);
        Check.is("swap answers", x.event(5, 0), 4);
        Check.is("swap takes the add's answer", x.event(5, 1), 6);
        Check.is("cell 0", x.cell(0), 12);
        Check.is("cell 1", x.cell(1), 14);
        Check.is("cell 2", x.cell(2), 0);
        Check.is("no call", x.event(2, 2), HistoryJudge.NONE);
        Check.is("no return", x.event(2, 3), HistoryJudge.NONE);
    }

    private static void runArgumentsAsTheyWere() {
        HistoryJudge x = new HistoryJudge();
        x.add(0, OPEN, 0, 2);
        x.add(0, OPEN, 1, 0);
        x.add(1, ADD, 0, 1);
        x.add(1, SWAP, 1, 10);
        x.add(2, SWAP, 1, 5);
        Check.is("run", x.run(schedule("222111111")), true);
        Check.is("the answer it stands for", x.event(3, 1), 3);
        Check.is("swap answers", x.event(3, 0), 5);
        Check.is("cell 1", x.cell(1), 11);
        orderIs(x, 4, 2, 3);
        Check.is("run", x.run(schedule("211221111")), true);
        Check.is("swap of 2 answers", x.event(4, 0), 0);
        orderIs(x, 2, 4, 3);
    }

    private static void fails() {
        HistoryJudge x = twoAdds();
        Check.fails("0 runs", ARGUMENT, () -> x.fails(1L, 0));
        Check.fails("51 runs", ARGUMENT, () -> x.fails(1L, 51));
        Check.fails("-1 runs", ARGUMENT, () -> x.fails(1L, -1));
        Check.is("refusals do not count", x.count(1), 0);
        Check.is("no flaws", x.fails(1L, 50), HistoryJudge.NONE);
        Check.is("50 runs", x.count(1), 50);
        Check.is("event is of the last run", x.event(0, 0), 0);
        x.flaws(1);
        for (long seed = 0; seed < 20; seed++) {
            int before = x.count(1);
            int unexplained = x.count(2);
            int got = x.fails(seed, 5);
            int due = firstFailure(seed, 5);
            Check.is("fails by seed " + seed, got, due);
            Check.is("runs by seed " + seed, x.count(1) - before, due < 0 ? 5 : due + 1);
            Check.is("unexplained by seed " + seed, x.count(2) - unexplained, due < 0 ? 0 : 1);
        }
    }

    private static int firstFailure(long seed, int runs) {
        HistoryJudge y = twoAdds();
        y.flaws(1);
        Drawing drawing = new Drawing(seed);
        for (int n = 0; n < runs; n++) {
            if (!y.run(drawing.schedule())) {
                return n;
            }
        }
        return HistoryJudge.NONE;
    }

    /** Seeds whose first number's 31 bits are the two highest that there can be. */
    private static void failsDrawsBelow() {
        HistoryJudge x = twoAdds();
        x.fails(seedOfFirst(2147483647L), 1);
        Check.is("2147483647 is schedule 0: 1 goes first", x.event(1, 3), 2);
        x.fails(seedOfFirst(2147483646L), 1);
        Check.is("2147483646 stays: 1 calls first", x.event(1, 2), 0);
        Check.is("2147483646 stays: 2 returns first", x.event(2, 3), 3);
    }

    private static long seedOfFirst(long highest) {
        long factor = 6364136223846793005L;
        long inverse = factor;
        for (int n = 0; n < 6; n++) {
            inverse *= 2 - factor * inverse;
        }
        return ((highest << 33) - 1442695040888963407L) * inverse;
    }

    private static void shrink() {
        HistoryJudge x = new HistoryJudge();
        x.add(0, OPEN, 1, 3);
        x.add(0, OPEN, 0, 6);
        x.add(0, READ, 0, 0);
        x.add(1, READ, 1, 10);
        x.add(1, ADD, 0, 4);
        x.add(2, ADD, 0, 8 + 0);
        x.add(2, ADD, 0, 1);
        x.flaws(1);
        Check.is("it fails", x.fails(1L, 50) >= 0, true);
        int unexplained = x.count(2);
        int taken = x.shrink(1L, 50);
        Check.is("count(3)", x.count(3), taken);
        Check.is("unexplained: first, taken, once more", x.count(2) - unexplained, taken + 2);
        Check.is("count(0)", x.count(0), 3);
        commandIs(x, 0, 0, OPEN, 0, 0);
        commandIs(x, 1, 1, ADD, 0, 1);
        Check.is("last branch", x.command(2, 0), 2);
        Check.is("last kind", x.command(2, 1), ADD);
        Check.fails("the latest run is not explained", ELEMENT, () -> x.order(0));
        int number = x.event(2, 1);
        Check.is("lost", x.cell(0) == 8 + 1 || x.cell(0) == 8 + number, true);
        int runs = x.count(1);
        unexplained = x.count(2);
        Check.is("nothing more to take", x.shrink(1L, 50), 0);
        Check.is("first and once more", x.count(2) - unexplained, 2);
        Check.is("candidates' runs count", x.count(1) > runs + 2, true);
        Check.is("count(3) stays", x.count(3), taken);
    }

    private static void shrinkRefusals() {
        HistoryJudge x = twoAdds();
        Check.fails("0 runs", ARGUMENT, () -> x.shrink(1L, 0));
        Check.fails("51 runs", ARGUMENT, () -> x.shrink(1L, 51));
        Check.is("refusals do not count", x.count(1), 0);
        Check.fails("no run", STATE, () -> x.event(0, 0));
        Check.fails("it does not fail", STATE, () -> x.shrink(1L, 20));
        Check.is("these runs count", x.count(1), 20);
        Check.is("and are tallied", x.tally(ADD), 40);
        Check.is("the last one is the latest", x.event(0, 1), 5);
        Check.is("nothing was taken", x.count(3), 0);
        Check.is("the program stays", x.count(0), 3);
    }

    /** The READ is needed for its answer, so it can leave its branch only for the prefix. */
    private static void shrinkPromotes() {
        HistoryJudge x = new HistoryJudge();
        x.add(0, OPEN, 0, 1);
        x.add(1, READ, 0, 0);
        x.add(1, ADD, 0, 8 + 1);
        x.add(2, ADD, 0, 1);
        x.flaws(1);
        Check.is("branch 1's READ", x.shrink(1L, 50), 1);
        Check.is("none is gone", x.count(0), 4);
        commandIs(x, 1, 0, READ, 0, 0);
        commandIs(x, 2, 1, ADD, 0, 8 + 1);
        commandIs(x, 3, 2, ADD, 0, 1);
        Check.is("as it fails", x.event(2, 0), 2);
        Check.is("as it fails", x.event(3, 0), 2);
        x.clear();
        x.add(0, OPEN, 0, 1);
        x.add(1, ADD, 0, 1);
        x.add(2, READ, 0, 0);
        x.add(2, ADD, 0, 8 + 2);
        Check.is("branch 2's READ", x.shrink(1L, 50), 1);
        commandIs(x, 1, 0, READ, 0, 0);
        commandIs(x, 2, 1, ADD, 0, 1);
        commandIs(x, 3, 2, ADD, 0, 8 + 1);
        Check.is("taken in all", x.count(3), 2);
    }

    /**
     * Branch 2's READ leaves for the prefix, past a branch 1 whose READ shows that the MOVE took what
     * was no longer there, and stands for the MOVE's answer.
     */
    private static void shrinkPromotesPastBranch1() {
        HistoryJudge x = new HistoryJudge();
        x.add(0, OPEN, 0, 0);
        x.add(0, OPEN, 1, 0);
        x.add(0, OPEN, 2, 1);
        x.add(1, MOVE, 0, 0);
        x.add(1, READ, 0, 8 + 3);
        x.add(2, READ, 2, 0);
        x.add(2, WRITE, 1, 8 + 5);
        x.add(2, WRITE, 0, 1);
        x.flaws(4);
        Check.is("the READ alone", x.shrink(1L, 50), 1);
        commandIs(x, 3, 0, READ, 2, 0);
        commandIs(x, 4, 1, MOVE, 0, 0);
        commandIs(x, 5, 1, READ, 0, 8 + 4);
        commandIs(x, 6, 2, WRITE, 1, 8 + 3);
        commandIs(x, 7, 2, WRITE, 0, 1);
        Check.is("the MOVE answers", x.event(4, 0), 1);
        Check.is("the READ takes that", x.event(5, 1), 1);
        Check.is("the READ answers", x.event(5, 0), 0);
    }

    /** An ADD of 0 loses nothing, so the numbers go down by halves, to 1. */
    private static void shrinkHalves() {
        HistoryJudge x = new HistoryJudge();
        x.add(0, OPEN, 2, 7);
        x.add(1, ADD, 2, 7);
        x.add(2, ADD, 2, 2);
        x.flaws(1);
        Check.is("7 to 0, 7 to 3 to 1, 2 to 1", x.shrink(1L, 50), 4);
        commandIs(x, 0, 0, OPEN, 2, 0);
        commandIs(x, 1, 1, ADD, 2, 1);
        commandIs(x, 2, 2, ADD, 2, 1);
    }

    private static void command() {
        HistoryJudge x = twoAdds();
        commandIs(x, 2, 2, ADD, 0, 1);
        Check.fails("command -1", INDEX, () -> x.command(-1, 0));
        Check.fails("command 3", INDEX, () -> x.command(3, 0));
        Check.fails("what -1", INDEX, () -> x.command(0, -1));
        Check.fails("what 4", INDEX, () -> x.command(0, 4));
        Check.fails("highest", INDEX, () -> x.command(Integer.MAX_VALUE, Integer.MAX_VALUE));
    }

    private static void eventAndItsState() {
        HistoryJudge x = twoAdds();
        Check.fails("no run", STATE, () -> x.event(0, 0));
        Check.fails("no such command goes first", INDEX, () -> x.event(3, 0));
        Check.fails("no such event goes first", INDEX, () -> x.event(0, 4));
        x.run(0);
        Check.is("answer", x.event(2, 0), 1);
        Check.is("number", x.event(2, 1), 1);
        Check.is("call", x.event(2, 2), 3);
        Check.is("return", x.event(2, 3), 5);
        Check.fails("event -1", INDEX, () -> x.event(-1, 0));
        Check.fails("event 3", INDEX, () -> x.event(3, 0));
        Check.fails("what -1", INDEX, () -> x.event(0, -1));
        Check.fails("what 4", INDEX, () -> x.event(0, 4));
        x.add(2, READ, 0, 0);
        Check.fails("add came since", STATE, () -> x.event(0, 0));
        x.fails(1L, 1);
        Check.is("fails is a run", x.event(0, 1), 5);
        x.make(7L, 6, 4, 4);
        Check.fails("make came since", STATE, () -> x.event(0, 0));
        x.run(0);
        x.clear();
        x.add(0, OPEN, 0, 0);
        Check.fails("clear came since", STATE, () -> x.event(0, 0));
    }

    private static void orderAndItsState() {
        HistoryJudge x = new HistoryJudge();
        x.add(0, OPEN, 0, 0);
        x.add(1, READ, 0, 0);
        x.add(1, READ, 0, 0);
        x.add(2, READ, 0, 0);
        x.add(2, READ, 0, 0);
        Check.fails("no run", STATE, () -> x.order(-1));
        x.run(schedule("121112211222"));
        orderIs(x, 1, 2, 3, 4);
        x.run(schedule("121212121212"));
        orderIs(x, 1, 3, 2, 4);
        x.run(schedule("222121212111"));
        orderIs(x, 3, 1, 4, 2);
        x.run(schedule("222222"));
        orderIs(x, 3, 4, 1, 2);
        Check.fails("place -1", ELEMENT, () -> x.order(-1));
        Check.fails("highest place", ELEMENT, () -> x.order(Integer.MAX_VALUE));
        x.add(0, READ, 0, 0);
        Check.fails("add came since", STATE, () -> x.order(0));
        x.run(0);
        orderIs(x, 2, 3, 4, 5);
        x.clear();
        Check.fails("clear came since", STATE, () -> x.order(0));
    }

    private static void cell() {
        HistoryJudge x = new HistoryJudge();
        x.add(0, OPEN, 0, 7);
        x.add(0, OPEN, 1, 0);
        x.add(1, CLOSE, 0, 0);
        Check.fails("no run", STATE, () -> x.cell(0));
        Check.fails("no such cell goes first", INDEX, () -> x.cell(3));
        Check.fails("cell -1", INDEX, () -> x.cell(-1));
        x.run(0);
        Check.is("close answers", x.event(2, 0), 7);
        Check.is("closed", x.cell(0), 0);
        Check.is("open", x.cell(1), 8);
        Check.is("never open", x.cell(2), 0);
        x.add(1, OPEN, 0, 10);
        Check.fails("add came since", STATE, () -> x.cell(0));
        x.run(0);
        Check.is("open again", x.cell(0), 15);
        x.make(7L, 1, 0, 0);
        Check.fails("make came since", STATE, () -> x.cell(0));
    }

    private static void countAndTally() {
        HistoryJudge x = twoAdds();
        Check.fails("count -1", INDEX, () -> x.count(-1));
        Check.fails("count 4", INDEX, () -> x.count(4));
        Check.fails("tally -1", INDEX, () -> x.tally(-1));
        Check.fails("tally 7", INDEX, () -> x.tally(7));
        x.run(0);
        x.flaws(1);
        x.run(schedule("12121212"));
        x.run(0);
        Check.is("commands", x.count(0), 3);
        Check.is("runs", x.count(1), 3);
        Check.is("unexplained", x.count(2), 1);
        Check.is("taken", x.count(3), 0);
        Check.is("tally OPEN", x.tally(OPEN), 3);
        Check.is("tally ADD", x.tally(ADD), 6);
        Check.is("tally READ", x.tally(READ), 0);
    }

    /** The example of README.md, call by call. */
    private static void example() {
        HistoryJudge judge = new HistoryJudge();
        Check.is("add", judge.add(0, 0, 0, 5), 0);
        Check.is("add", judge.add(1, 4, 0, 3), 1);
        Check.is("add", judge.add(2, 4, 0, 1), 2);
        Check.is("add", judge.add(2, 5, 0, 8 + 2), 3);
        Check.is("run", judge.run(0), true);
        Check.is("order", judge.order(0), 1);
        Check.is("flaws", judge.flaws(1), 0);
        Check.is("run", judge.run(0b10101010), false);
        Check.is("event", judge.event(2, 0), 6);
        Check.is("cell", judge.cell(0), 14);
        Check.is("fails", judge.fails(1, 20), 0);
        Check.is("shrink", judge.shrink(1, 20), 3);
        Check.is("count", judge.count(0), 3);
        Check.same("commands", commandsOf(judge), "0 0 0 0,1 4 0 1,2 4 0 1,");
    }
}
