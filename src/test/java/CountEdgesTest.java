/**
 * Promises 13 (count) and 14 (tally), and the 512 calls for which an object is good: each edge that
 * the document names, in a test of its own.
 */
public final class CountEdgesTest extends Bench {
    private static final int CALLS = 512;

    private CountEdgesTest() {
    }

    public static void main(String[] args) {
        Check.runAllOf(CountEdgesTest.class);
    }

    private static void countBelowTheFirst() {
        HistoryJudge x = twoAdds();
        Check.is("count(0)", x.count(0), 3);
        Check.fails("count(-1)", INDEX, () -> x.count(-1));
        Check.fails("lowest", INDEX, () -> x.count(LOWEST));
    }

    private static void countAboveTheLast() {
        HistoryJudge x = twoAdds();
        Check.is("count(3)", x.count(3), 0);
        Check.fails("count(4)", INDEX, () -> x.count(4));
        Check.fails("highest", INDEX, () -> x.count(HIGHEST));
    }

    private static void tallyBelowTheFirst() {
        HistoryJudge x = twoAdds();
        x.run(0);
        Check.is("tally(0)", x.tally(0), 1);
        Check.fails("tally(-1)", INDEX, () -> x.tally(-1));
        Check.fails("lowest", INDEX, () -> x.tally(LOWEST));
    }

    private static void tallyAboveTheLast() {
        HistoryJudge x = new HistoryJudge();
        x.add(0, OPEN, 0, 0);
        x.add(0, OPEN, 1, 0);
        x.add(1, MOVE, 0, 0);
        x.run(0);
        Check.is("tally(6)", x.tally(6), 1);
        Check.fails("tally(7)", INDEX, () -> x.tally(7));
        Check.fails("highest", INDEX, () -> x.tally(HIGHEST));
    }

    private static void anEmptyProgram() {
        HistoryJudge x = new HistoryJudge();
        Check.same("no run yet", countsOf(x), "0 0 0 0 0 0 0 0 0 0 0 ");
        x.run(0);
        Check.same("behind a run", countsOf(x), "0 1 0 0 0 0 0 0 0 0 0 ");
    }

    private static void noRunYet() {
        Check.same("counts", countsOf(twoAdds()), "3 0 0 0 0 0 0 0 0 0 0 ");
    }

    private static void eachKindIsTallied() {
        HistoryJudge x = new HistoryJudge();
        x.add(0, OPEN, 0, 0);
        x.add(0, OPEN, 1, 0);
        x.add(0, OPEN, 2, 0);
        x.add(1, READ, 0, 0);
        x.add(1, WRITE, 0, 0);
        x.add(1, ADD, 0, 0);
        x.add(1, ADD, 1, 0);
        x.add(2, SWAP, 0, 0);
        x.add(2, SWAP, 0, 0);
        x.add(2, MOVE, 0, 0);
        x.add(2, CLOSE, 2, 0);
        x.run(0);
        Check.same("behind one run", countsOf(x), "11 1 0 0 3 1 1 1 2 2 1 ");
        x.flaws(15);
        x.run(0);
        Check.same("a command of two parts is done once", countsOf(x), "11 2 0 0 6 2 2 2 4 4 2 ");
    }

    private static void aRunThatWasNotExplained() {
        HistoryJudge x = twoAdds();
        x.flaws(1);
        x.run(schedule("12121212"));
        Check.same("it counts in both", countsOf(x), "3 1 1 0 1 0 0 0 2 0 0 ");
        x.run(0);
        Check.same("an explained one does not", countsOf(x), "3 2 1 0 2 0 0 0 4 0 0 ");
    }

    private static void addClearMakeAndFlawsBehindARun() {
        HistoryJudge x = twoAdds();
        x.flaws(1);
        x.run(schedule("12121212"));
        x.add(1, READ, 0, 0);
        Check.same("behind add", countsOf(x), "4 1 1 0 1 0 0 0 2 0 0 ");
        Check.fails("an add that throws", UNSUPPORTED, () -> x.add(1, OPEN, 0, 0));
        Check.same("behind it", countsOf(x), "4 1 1 0 1 0 0 0 2 0 0 ");
        x.flaws(0);
        Check.same("behind flaws", countsOf(x), "4 1 1 0 1 0 0 0 2 0 0 ");
        x.clear();
        Check.same("behind clear", countsOf(x), "0 1 1 0 1 0 0 0 2 0 0 ");
        x.make(0L, 6, 4, 4);
        Check.same("behind make", countsOf(x), "14 1 1 0 1 0 0 0 2 0 0 ");
    }

    private static void candidatesThatWereTaken() {
        HistoryJudge x = twoAdds();
        x.flaws(1);
        x.fails(1L, 50);
        Check.is("none by fails", x.count(3), 0);
        int taken = x.shrink(1L, 50);
        Check.is("by shrink", x.count(3), taken);
        Check.is("commands", x.count(0), 3);
    }

    private static void refusedCallsCountNothing() {
        HistoryJudge x = twoAdds();
        Check.fails("run", ARGUMENT, () -> x.run(-1) ? 1 : 0);
        Check.fails("fails", ARGUMENT, () -> x.fails(1L, 0));
        Check.fails("shrink", ARGUMENT, () -> x.shrink(1L, 51));
        Check.same("counts", countsOf(x), "3 0 0 0 0 0 0 0 0 0 0 ");
    }

    private static void theLastOf512Calls() {
        HistoryJudge x = new HistoryJudge();
        x.make(0L, 6, 4, 4);
        for (int n = 1; n < CALLS - 1; n++) {
            Check.is("run", x.fails(n, 50), NONE);
        }
        Check.is("runs", x.count(1), 50 * (CALLS - 2));
    }

    /** Three full programs, shrunk from the start again and again: the dearest calls that there are. */
    private static void shrinking512Times() {
        HistoryJudge x = new HistoryJudge();
        x.flaws(15);
        int taken = 0;
        for (int n = 1; n < CALLS - 2; n += 2) {
            x.make(n % 3, 6, 4, 4);
            try {
                taken += x.shrink(n, 50);
            } catch (IllegalStateException e) {
                // By that seed it does not fail: nothing is taken.
                taken += 0;
            }
        }
        Check.is("taken", x.count(3), taken);
        Check.is("something was", taken > CALLS, true);
    }

    /**
     * Each shrinking takes nothing, but runs 13 times until it fails, 50 times for each of 6
     * candidates, two of which have one ADD less, and once more.
     */
    private static void countsBeyond16Bits() {
        HistoryJudge x = new HistoryJudge();
        x.add(0, OPEN, 0, 0);
        x.add(1, ADD, 0, 1);
        x.add(2, ADD, 0, 1);
        x.flaws(1);
        int times = 400;
        for (int n = 0; n < times; n++) {
            Check.is("taken", x.shrink(0L, 50), 0);
        }
        int runs = 13 + 6 * 50 + 1;
        Check.is("runs", x.count(1), times * runs);
        Check.is("unexplained", x.count(2), times * 2);
        Check.is("OPENs", x.tally(OPEN), times * runs);
        Check.is("ADDs", x.tally(ADD), times * (2 * runs - 2 * 50));
    }
}
