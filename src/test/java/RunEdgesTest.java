/**
 * Promises 6 (run), 10 (event), 11 (order) and 12 (cell): each edge that the document names, in a
 * test of its own.
 */
public final class RunEdgesTest extends Bench {
    private static final String TURNS = "1212121212121212121212121212121";

    private RunEdgesTest() {
    }

    public static void main(String[] args) {
        Check.runAllOf(RunEdgesTest.class);
    }

    /** Both branches take turns, so that both ADDs note what the prefix wrote. */
    private static HistoryJudge notExplained() {
        HistoryJudge x = twoAdds();
        x.flaws(1);
        Check.is("the run that loses an ADD", x.run(schedule("12121212")), false);
        return x;
    }

    private static void scheduleBelow0() {
        HistoryJudge x = twoAdds();
        x.run(0);
        String before = allOf(x);
        Check.fails("run(-1)", ARGUMENT, () -> x.run(-1) ? 1 : 0);
        Check.fails("lowest", ARGUMENT, () -> x.run(LOWEST) ? 1 : 0);
        Check.same("what is there behind it", allOf(x), before);
    }

    private static void schedule0() {
        HistoryJudge x = twoOfEach();
        Check.is("run", x.run(0), true);
        eventIs(x, 2, 5, 1, 0, 2);
        eventIs(x, 3, 5, 2, 3, 5);
        eventIs(x, 4, 5, 3, 6, 8);
        eventIs(x, 5, 5, 4, 9, 11);
        orderIs(x, 2, 3, 4, 5);
    }

    private static void scheduleGreatest() {
        HistoryJudge x = twoOfEach();
        Check.is("run", x.run(HIGHEST), true);
        eventIs(x, 4, 5, 3, 0, 2);
        eventIs(x, 5, 5, 4, 3, 5);
        eventIs(x, 2, 5, 1, 6, 8);
        eventIs(x, 3, 5, 2, 9, 11);
        orderIs(x, 4, 5, 2, 3);
    }

    private static void emptyProgram() {
        for (int schedule : new int[] {0, 1, HIGHEST}) {
            HistoryJudge x = new HistoryJudge();
            x.flaws(15);
            Check.is("run", x.run(schedule), true);
            Check.same("counts", countsOf(x), "0 1 0 0 0 0 0 0 0 0 0 ");
            Check.fails("event", INDEX, () -> x.event(0, 0));
            Check.fails("order", ELEMENT, () -> x.order(0));
            for (int c = 0; c < 3; c++) {
                Check.is("cell " + c, x.cell(c), 0);
            }
        }
    }

    private static void prefixAlone() {
        HistoryJudge x = new HistoryJudge();
        x.add(0, OPEN, 0, 6);
        x.add(0, ADD, 0, 5);
        x.flaws(15);
        Check.is("run", x.run(HIGHEST), true);
        eventIs(x, 0, 0, 6, NONE, NONE);
        eventIs(x, 1, 3, 5, NONE, NONE);
        Check.fails("order", ELEMENT, () -> x.order(0));
        Check.is("cell", x.cell(0), 8 + 3);
    }

    private static void emptyBranch1() {
        for (int schedule : new int[] {0, HIGHEST, 5}) {
            HistoryJudge x = new HistoryJudge();
            x.add(0, OPEN, 0, 2);
            x.add(2, SWAP, 0, 7);
            x.add(2, READ, 0, 0);
            Check.is("run", x.run(schedule), true);
            eventIs(x, 1, 2, 7, 0, 2);
            eventIs(x, 2, 7, 0, 3, 5);
            orderIs(x, 1, 2);
        }
    }

    private static void emptyBranch2() {
        for (int schedule : new int[] {0, HIGHEST, 5}) {
            HistoryJudge x = new HistoryJudge();
            x.add(0, OPEN, 0, 2);
            x.add(1, SWAP, 0, 7);
            x.add(1, READ, 0, 0);
            Check.is("run", x.run(schedule), true);
            eventIs(x, 1, 2, 7, 0, 2);
            eventIs(x, 2, 7, 0, 3, 5);
            orderIs(x, 1, 2);
        }
    }

    private static void emptyPrefix() {
        HistoryJudge x = new HistoryJudge();
        x.add(1, OPEN, 0, 2);
        x.add(2, OPEN, 2, 3);
        Check.is("run", x.run(schedule("212121")), true);
        eventIs(x, 0, 0, 2, 1, 5);
        eventIs(x, 1, 0, 3, 0, 4);
        Check.is("cell 0", x.cell(0), 8 + 2);
        Check.is("cell 1", x.cell(1), 0);
        Check.is("cell 2", x.cell(2), 8 + 3);
    }

    private static void aBranchThatEndsFirst() {
        HistoryJudge x = twoOfEach();
        x.run(schedule("111111" + "111111"));
        Check.is("2 is left, whatever the bits say", x.event(5, 3), 11);
        x.run(schedule("222222" + "222222"));
        Check.is("1 is left, whatever the bits say", x.event(3, 3), 11);
    }

    /** The most events that a run can have: moments 0 to 31. */
    private static void momentsTo31() {
        HistoryJudge x = full(ADD);
        x.flaws(1);
        x.run(0);
        for (int n = 0; n < 4; n++) {
            Check.is("1 calls", x.event(6 + n, 2), 4 * n);
            Check.is("1 returns", x.event(6 + n, 3), 4 * n + 3);
            Check.is("2 calls", x.event(10 + n, 2), 16 + 4 * n);
            Check.is("2 returns", x.event(10 + n, 3), 16 + 4 * n + 3);
        }
        x.run(HIGHEST);
        for (int n = 0; n < 4; n++) {
            Check.is("2 calls", x.event(10 + n, 2), 4 * n);
            Check.is("2 returns", x.event(10 + n, 3), 4 * n + 3);
            Check.is("1 calls", x.event(6 + n, 2), 16 + 4 * n);
            Check.is("1 returns", x.event(6 + n, 3), 16 + 4 * n + 3);
        }
    }

    /** At moment 30 both branches have one event left, and bit 30 is the highest that there is. */
    private static void moment30TakesBit30() {
        HistoryJudge x = full(ADD);
        x.flaws(1);
        x.run(schedule(TURNS));
        Check.is("1 returns", x.event(9, 3), 30);
        Check.is("2 returns", x.event(13, 3), 31);
        x.run(schedule(TURNS) | 1 << 30);
        Check.is("1 returns", x.event(9, 3), 31);
        Check.is("2 returns", x.event(13, 3), 30);
    }

    /** Bit 0, which moment 31 takes, says branch 1 or 2, but only one of them has an event left. */
    private static void moment31HasOneBranchLeft() {
        HistoryJudge x = full(ADD);
        x.flaws(1);
        x.run(HIGHEST & ~schedule(TURNS));
        Check.is("2 calls first", x.event(10, 2), 0);
        Check.is("2 returns", x.event(13, 3), 30);
        Check.is("1 returns", x.event(9, 3), 31);
        x.run(schedule(TURNS));
        Check.is("1 calls first", x.event(6, 2), 0);
        Check.is("2 returns", x.event(13, 3), 31);
    }

    private static void lateAtMoment31() {
        HistoryJudge x = new HistoryJudge();
        x.add(0, OPEN, 0, 0);
        for (int n = 0; n < 4; n++) {
            x.add(1, WRITE, 0, 1);
            x.add(2, WRITE, 0, n + 4);
        }
        x.flaws(8);
        Check.is("run", x.run(0), true);
        Check.is("2 calls", x.event(8, 2), 28);
        Check.is("2 returns", x.event(8, 3), 30);
        Check.is("done at 31", x.cell(0), 8 + 7);
        Check.is("run", x.run(HIGHEST), true);
        Check.is("1 returns", x.event(4, 3), 30);
        Check.is("done at 31", x.cell(0), 8 + 1);
    }

    private static void numbersWrapAt8() {
        HistoryJudge x = new HistoryJudge();
        x.add(0, OPEN, 0, 7);
        x.add(1, ADD, 0, 1);
        x.add(1, ADD, 0, 7);
        x.add(1, ADD, 0, 7);
        x.add(1, ADD, 0, 0);
        for (int flaws = 0; flaws < 2; flaws++) {
            x.flaws(flaws);
            Check.is("run", x.run(0), true);
            Check.is("7 + 1", x.event(1, 0), 0);
            Check.is("0 + 7", x.event(2, 0), 7);
            Check.is("7 + 7", x.event(3, 0), 6);
            Check.is("6 + 0", x.event(4, 0), 6);
            Check.is("cell", x.cell(0), 8 + 6);
        }
    }

    private static void sourceOfTheLastCellIsTheFirst() {
        HistoryJudge x = new HistoryJudge();
        x.add(0, OPEN, 0, 3);
        x.add(0, OPEN, 1, 4);
        x.add(0, OPEN, 2, 5);
        x.add(1, MOVE, 2, 0);
        for (int flaws : new int[] {0, 4}) {
            x.flaws(flaws);
            Check.is("run", x.run(0), true);
            Check.is("what it held", x.event(3, 0), 5);
            Check.is("cell 2", x.cell(2), 8 + 3);
            Check.is("cell 0", x.cell(0), 8 + 3);
            Check.is("cell 1", x.cell(1), 8 + 4);
        }
    }

    private static void closedCellHolds0() {
        HistoryJudge x = new HistoryJudge();
        x.add(0, OPEN, 0, 7);
        x.add(0, CLOSE, 0, 0);
        x.run(0);
        Check.is("CLOSE answers", x.event(1, 0), 7);
        Check.is("closed", x.cell(0), 0);
        x.add(1, OPEN, 0, 0);
        x.run(0);
        Check.is("open with 0", x.cell(0), 8);
    }

    /** A run starts from the system at first, not from what the latest one left. */
    private static void eachRunStartsAnew() {
        HistoryJudge x = twoAdds();
        for (int n = 0; n < 3; n++) {
            Check.is("run", x.run(0), true);
            Check.is("cell", x.cell(0), 8 + 1);
            Check.is("answer", x.event(1, 0), 0);
        }
    }

    private static void cellsOfAnEarlierProgramAreClosedAgain() {
        HistoryJudge x = new HistoryJudge();
        x.add(0, OPEN, 1, 6);
        x.add(2, OPEN, 2, 7);
        x.run(0);
        Check.is("cell 2", x.cell(2), 8 + 7);
        x.clear();
        x.run(0);
        for (int c = 0; c < 3; c++) {
            Check.is("cell " + c, x.cell(c), 0);
        }
    }

    /** A return at one moment and a call at the next: no order may turn them round. */
    private static void callRightBehindAReturn() {
        HistoryJudge x = new HistoryJudge();
        x.add(0, OPEN, 0, 0);
        x.add(1, WRITE, 0, 1);
        x.add(2, READ, 0, 0);
        x.flaws(8);
        Check.is("called behind the return", x.run(schedule("1112221")), false);
        Check.is("call", x.event(2, 2), x.event(1, 3) + 1);
        Check.is("called before the return", x.run(schedule("1121221")), true);
        Check.is("return", x.event(1, 3), x.event(2, 2) + 1);
        orderIs(x, 2, 1);
    }

    private static void eventOfAnEmptyProgram() {
        HistoryJudge x = new HistoryJudge();
        Check.fails("no run", INDEX, () -> x.event(0, 0));
        x.run(0);
        Check.fails("behind a run", INDEX, () -> x.event(0, 0));
        Check.fails("below", INDEX, () -> x.event(-1, 0));
    }

    private static void eventBelowTheFirst() {
        HistoryJudge x = twoAdds();
        x.run(0);
        eventIs(x, 0, 0, 5, NONE, NONE);
        Check.fails("event(-1, 0)", INDEX, () -> x.event(-1, 0));
        Check.fails("lowest", INDEX, () -> x.event(LOWEST, 0));
    }

    private static void eventAboveTheLast() {
        HistoryJudge x = twoAdds();
        x.run(0);
        eventIs(x, 2, 1, 1, 3, 5);
        Check.fails("event(3, 0)", INDEX, () -> x.event(3, 0));
        Check.fails("highest", INDEX, () -> x.event(HIGHEST, 0));
    }

    private static void eventAboveTheLastOfAll() {
        HistoryJudge x = full(ADD);
        x.run(0);
        eventIs(x, 13, 5, 1, 21, 23);
        Check.fails("event(14, 0)", INDEX, () -> x.event(14, 0));
    }

    private static void eventWhatOutside() {
        HistoryJudge x = twoAdds();
        x.run(0);
        Check.fails("event(1, -1)", INDEX, () -> x.event(1, -1));
        Check.fails("event(1, 4)", INDEX, () -> x.event(1, 4));
        Check.fails("lowest", INDEX, () -> x.event(1, LOWEST));
        Check.fails("highest", INDEX, () -> x.event(1, HIGHEST));
    }

    /** The document names the index first. */
    private static void eventOutsideWithNoRun() {
        HistoryJudge x = twoAdds();
        Check.fails("event(-1, 0)", INDEX, () -> x.event(-1, 0));
        Check.fails("event(3, 0)", INDEX, () -> x.event(3, 0));
        Check.fails("event(0, -1)", INDEX, () -> x.event(0, -1));
        Check.fails("event(0, 4)", INDEX, () -> x.event(0, 4));
    }

    private static void eventOfThePrefixHasNoTimes() {
        HistoryJudge x = full(WRITE);
        x.flaws(8);
        x.run(HIGHEST);
        for (int i = 0; i < 6; i++) {
            Check.is("call of " + i, x.event(i, 2), NONE);
            Check.is("return of " + i, x.event(i, 3), NONE);
        }
        Check.is("call of branch 2's first", x.event(10, 2), 0);
    }

    private static void eventTellsTheNumberOfAnAnswer() {
        HistoryJudge x = new HistoryJudge();
        x.add(0, OPEN, 0, 7);
        x.add(0, ADD, 0, 4);
        x.add(1, READ, 0, 8 + 1);
        x.add(1, ADD, 0, 8 + 2);
        x.run(0);
        Check.is("of the prefix", x.event(2, 1), 3);
        Check.is("of the branch", x.event(3, 1), 3);
        Check.is("answer", x.event(3, 0), 6);
    }

    private static void orderBelowTheFirst() {
        HistoryJudge x = twoAdds();
        x.run(0);
        Check.is("order(0)", x.order(0), 1);
        Check.fails("order(-1)", ELEMENT, () -> x.order(-1));
        Check.fails("lowest", ELEMENT, () -> x.order(LOWEST));
    }

    private static void orderAboveTheLast() {
        HistoryJudge x = twoAdds();
        x.run(0);
        Check.is("order(1)", x.order(1), 2);
        Check.fails("order(2)", ELEMENT, () -> x.order(2));
        Check.fails("highest", ELEMENT, () -> x.order(HIGHEST));
    }

    private static void orderOf8Places() {
        HistoryJudge x = full(READ);
        x.run(HIGHEST);
        orderIs(x, 10, 11, 12, 13, 6, 7, 8, 9);
        x.run(0);
        orderIs(x, 6, 7, 8, 9, 10, 11, 12, 13);
    }

    private static void orderOfNoPlaces() {
        HistoryJudge x = new HistoryJudge();
        x.run(0);
        Check.fails("of an empty program", ELEMENT, () -> x.order(0));
        x.add(0, OPEN, 0, 0);
        x.run(0);
        Check.fails("of a prefix alone", ELEMENT, () -> x.order(0));
    }

    private static void orderOfARunThatWasNotExplained() {
        HistoryJudge x = notExplained();
        for (int k = -1; k <= 2; k++) {
            int at = k;
            Check.fails("order(" + k + ")", ELEMENT, () -> x.order(at));
        }
        x.run(0);
        orderIs(x, 1, 2);
    }

    /** The document names the state first. */
    private static void orderOutsideWithNoRun() {
        HistoryJudge x = twoAdds();
        for (int k = -1; k <= 2; k++) {
            int at = k;
            Check.fails("order(" + k + ")", STATE, () -> x.order(at));
        }
    }

    /** Where branch 1's command may come first, it does. */
    private static void orderTakesBranch1WhereItMay() {
        HistoryJudge x = twoOfEach();
        x.run(schedule("212121212121"));
        orderIs(x, 2, 4, 3, 5);
        x.run(schedule("222121212111"));
        orderIs(x, 4, 2, 5, 3);
    }

    private static void cellBelowTheFirst() {
        HistoryJudge x = twoAdds();
        x.run(0);
        Check.is("cell(0)", x.cell(0), 8 + 1);
        Check.fails("cell(-1)", INDEX, () -> x.cell(-1));
        Check.fails("lowest", INDEX, () -> x.cell(LOWEST));
    }

    private static void cellAboveTheLast() {
        HistoryJudge x = new HistoryJudge();
        x.add(1, OPEN, 2, 7);
        x.run(0);
        Check.is("cell(2)", x.cell(2), 8 + 7);
        Check.fails("cell(3)", INDEX, () -> x.cell(3));
        Check.fails("highest", INDEX, () -> x.cell(HIGHEST));
    }

    /** The document names the index first. */
    private static void cellOutsideWithNoRun() {
        HistoryJudge x = new HistoryJudge();
        Check.fails("cell(-1)", INDEX, () -> x.cell(-1));
        Check.fails("cell(3)", INDEX, () -> x.cell(3));
        for (int c = 0; c < 3; c++) {
            int at = c;
            Check.fails("cell(" + c + ")", STATE, () -> x.cell(at));
        }
    }

    private static void runIsGone(HistoryJudge x) {
        int commands = x.count(0);
        for (int i = 0; i < commands; i++) {
            int at = i;
            for (int w = 0; w < 4; w++) {
                int what = w;
                Check.fails("event(" + i + ", " + w + ")", STATE, () -> x.event(at, what));
            }
        }
        Check.fails("event behind the last", INDEX, () -> x.event(commands, 0));
        for (int k = -1; k < 3; k++) {
            int at = k;
            Check.fails("order(" + k + ")", STATE, () -> x.order(at));
        }
        for (int c = 0; c < 3; c++) {
            int at = c;
            Check.fails("cell(" + c + ")", STATE, () -> x.cell(at));
        }
    }

    private static void noRunYet() {
        runIsGone(new HistoryJudge());
        runIsGone(twoAdds());
        HistoryJudge x = new HistoryJudge();
        x.make(0L, 6, 4, 4);
        runIsGone(x);
    }

    private static void noRunBehindRefusedOnes() {
        HistoryJudge x = twoAdds();
        Check.fails("run", ARGUMENT, () -> x.run(-1) ? 1 : 0);
        Check.fails("fails", ARGUMENT, () -> x.fails(1L, 0));
        Check.fails("shrink", ARGUMENT, () -> x.shrink(1L, 51));
        runIsGone(x);
    }

    private static void addCameBehindTheRun() {
        for (int branch = 0; branch < 3; branch++) {
            HistoryJudge x = twoAdds();
            x.run(0);
            x.add(branch, READ, 0, 0);
            runIsGone(x);
            x.run(0);
            Check.is("behind another run", x.cell(0), 8 + 1);
        }
    }

    private static void addCameBehindARunOfNothing() {
        HistoryJudge x = new HistoryJudge();
        x.run(0);
        x.add(1, OPEN, 0, 0);
        runIsGone(x);
    }

    private static void addThatThrewCameBehindTheRun() {
        HistoryJudge x = full(READ);
        x.run(schedule("12211221"));
        String before = latestRunOf(x);
        Check.fails("no such branch", ARGUMENT, () -> x.add(3, READ, 0, 0));
        Check.fails("no such argument", ARGUMENT, () -> x.add(1, READ, 0, 8 + 10));
        Check.fails("full", STATE, () -> x.add(1, READ, 0, 0));
        Check.same("the latest run", latestRunOf(x), before);
        HistoryJudge y = twoAdds();
        y.run(schedule("122121"));
        String kept = latestRunOf(y);
        Check.fails("not valid", UNSUPPORTED, () -> y.add(1, OPEN, 0, 0));
        Check.fails("not valid", UNSUPPORTED, () -> y.add(0, CLOSE, 0, 0));
        Check.same("the latest run", latestRunOf(y), kept);
    }

    private static void clearCameBehindTheRun() {
        HistoryJudge x = twoAdds();
        x.run(0);
        x.clear();
        runIsGone(x);
        Check.fails("event of what was there", INDEX, () -> x.event(0, 0));
        x.add(0, OPEN, 0, 5);
        runIsGone(x);
    }

    private static void clearOfNothingCameBehindTheRun() {
        HistoryJudge x = new HistoryJudge();
        x.run(0);
        Check.is("cell", x.cell(0), 0);
        x.clear();
        runIsGone(x);
    }

    private static void makeCameBehindTheRun() {
        HistoryJudge x = twoAdds();
        x.run(0);
        x.make(0L, 6, 4, 4);
        runIsGone(x);
        x.run(0);
        x.make(0L, 0, 0, 0);
        runIsGone(x);
        x.run(0);
        x.make(0L, 0, 0, 0);
        runIsGone(x);
    }

    private static void makeThatThrewCameBehindTheRun() {
        HistoryJudge x = twoAdds();
        x.run(schedule("122121"));
        String before = latestRunOf(x);
        Check.fails("p 7", ARGUMENT, () -> x.make(0L, 7, 0, 0));
        Check.fails("b -1", ARGUMENT, () -> x.make(0L, 0, 0, -1));
        Check.same("the latest run", latestRunOf(x), before);
    }

    private static void flawsCameBehindTheRun() {
        HistoryJudge x = notExplained();
        String before = latestRunOf(x);
        x.flaws(0);
        Check.same("the latest run", latestRunOf(x), before);
        x.flaws(15);
        Check.fails("flaws(16)", ARGUMENT, () -> x.flaws(16));
        Check.same("the latest run", latestRunOf(x), before);
    }

    private static void refusedRunsCameBehindTheRun() {
        HistoryJudge x = notExplained();
        String before = latestRunOf(x);
        Check.fails("run", ARGUMENT, () -> x.run(-1) ? 1 : 0);
        Check.fails("fails", ARGUMENT, () -> x.fails(1L, 51));
        Check.fails("shrink", ARGUMENT, () -> x.shrink(1L, 0));
        Check.same("the latest run", latestRunOf(x), before);
    }

    private static void questionsCameBehindTheRun() {
        HistoryJudge x = notExplained();
        String before = allOf(x);
        Check.same("all that it tells", allOf(x), before);
    }

    private static void aRunThatWasNotExplained() {
        HistoryJudge x = notExplained();
        eventIs(x, 0, 0, 5, NONE, NONE);
        eventIs(x, 1, 0, 3, 0, 6);
        eventIs(x, 2, 6, 1, 1, 7);
        Check.is("cell", x.cell(0), 8 + 6);
        Check.fails("order", ELEMENT, () -> x.order(0));
        Check.is("unexplained", x.count(2), 1);
    }

    private static void theLatestRunIsToldAlone() {
        HistoryJudge x = notExplained();
        x.run(0);
        HistoryJudge y = twoAdds();
        y.flaws(1);
        y.run(0);
        Check.same("the latest run", latestRunOf(x), latestRunOf(y));
    }

    /** Each branch keeps what it noted, while the other one notes something else. */
    private static void notesOfBothBranchesAreApart() {
        for (int kind : new int[] {ADD, SWAP}) {
            HistoryJudge x = new HistoryJudge();
            x.add(0, OPEN, 0, 1);
            x.add(0, OPEN, 1, 5);
            x.add(1, kind, 0, 2);
            x.add(2, kind, 1, 2);
            x.flaws(15);
            Check.is("run", x.run(schedule("12121212")), true);
            Check.is("1 answers", x.event(2, 0), kind == ADD ? 3 : 1);
            Check.is("2 answers", x.event(3, 0), kind == ADD ? 7 : 5);
            Check.is("cell 0", x.cell(0), 8 + (kind == ADD ? 3 : 2));
            Check.is("cell 1", x.cell(1), 8 + (kind == ADD ? 7 : 2));
        }
        HistoryJudge x = new HistoryJudge();
        x.add(0, OPEN, 0, 1);
        x.add(0, OPEN, 1, 5);
        x.add(0, OPEN, 2, 6);
        x.add(1, MOVE, 0, 0);
        x.add(2, MOVE, 1, 0);
        x.flaws(4);
        Check.is("run", x.run(schedule("12121212")), true);
        Check.is("cell 0", x.cell(0), 8 + 5);
        Check.is("cell 1", x.cell(1), 8 + 6);
    }

    private static HistoryJudge twoSwaps() {
        HistoryJudge x = new HistoryJudge();
        x.add(0, OPEN, 0, 1);
        x.add(1, SWAP, 0, 2);
        x.add(2, SWAP, 0, 3);
        return x;
    }

    /** Branch 1 notes cell 1, which branch 2 then overwrites, and does its MOVE behind that of branch 2. */
    private static HistoryJudge threeMoves() {
        HistoryJudge x = new HistoryJudge();
        x.add(0, OPEN, 0, 0);
        x.add(0, OPEN, 1, 1);
        x.add(0, OPEN, 2, 2);
        x.add(1, MOVE, 0, 0);
        x.add(1, READ, 0, 0);
        x.add(2, MOVE, 1, 0);
        x.add(2, MOVE, 0, 0);
        return x;
    }

    private static HistoryJudge writeAndRead() {
        HistoryJudge x = new HistoryJudge();
        x.add(0, OPEN, 0, 0);
        x.add(1, WRITE, 0, 5);
        x.add(2, READ, 0, 0);
        return x;
    }

    private static void flawIsThere(String what, HistoryJudge x, String branches, int bits, int own) {
        x.flaws(bits);
        Check.is(what + " with flaws " + bits, x.run(schedule(branches)), (bits & own) == 0);
    }

    private static void eachFlawInEachSetOfFlaws() {
        for (int bits = 0; bits < 16; bits++) {
            flawIsThere("ADD", twoAdds(), "12121212", bits, 1);
            flawIsThere("SWAP", twoSwaps(), "12121212", bits, 2);
            flawIsThere("MOVE", threeMoves(), "1122222222", bits, 4);
            flawIsThere("WRITE", writeAndRead(), "1112221", bits, 8);
        }
    }

    /** OPEN, CLOSE and READ have three events, whatever the flaws are. */
    private static void kindsThatNoFlawTouches() {
        HistoryJudge x = new HistoryJudge();
        x.add(1, OPEN, 0, 4);
        x.add(1, READ, 0, 0);
        x.add(1, CLOSE, 0, 0);
        for (int bits = 0; bits < 16; bits++) {
            x.flaws(bits);
            Check.is("run", x.run(0), true);
            eventIs(x, 0, 0, 4, 0, 2);
            eventIs(x, 1, 4, 0, 3, 5);
            eventIs(x, 2, 4, 0, 6, 8);
        }
    }

    /**
     * Some READs, then a WRITE that is late, and a READ of the other branch between its return and
     * that: at whatever place the WRITE stands, no order may put the READ before it.
     */
    private static void timesHoldAtEachPlace() {
        for (int n = 0; n < 4; n++) {
            for (int m = 0; m < 4; m++) {
                timesHold(1, n, m);
                timesHold(2, n, m);
            }
        }
    }

    private static void timesHold(int branch, int own, int others) {
        HistoryJudge x = new HistoryJudge();
        x.add(0, OPEN, 0, 0);
        StringBuilder row = new StringBuilder();
        for (int n = 0; n < own; n++) {
            x.add(branch, READ, 0, 0);
            row.append("111");
        }
        for (int n = 0; n < others; n++) {
            x.add(3 - branch, READ, 0, 0);
            row.append("222");
        }
        x.add(branch, WRITE, 0, 5);
        x.add(3 - branch, READ, 0, 0);
        row.append("111").append("222").append("1");
        int bits = branch == 1 ? schedule(row.toString()) : HIGHEST & ~schedule(row.toString());
        String what = own + " before a WRITE of branch " + branch + ", " + others + " in the other";
        Check.is(what, x.run(bits), true);
        x.flaws(8);
        Check.is(what + ", late", x.run(bits), false);
    }

    /** One command, then one of the other branch: each returns before the next is called. */
    private static void orderByTimesAlone() {
        HistoryJudge x = full(READ);
        x.run(schedule("111222111222111222111222"));
        orderIs(x, 6, 10, 7, 11, 8, 12, 9, 13);
        x.run(schedule("222111222111222111222111"));
        orderIs(x, 10, 6, 11, 7, 12, 8, 13, 9);
        x.run(schedule("222222111111222222111111"));
        orderIs(x, 10, 11, 6, 7, 12, 13, 8, 9);
    }

    /** The two commands of each pair overlap, so that the answers alone tell which one came first. */
    private static void orderByAnswersAlone() {
        HistoryJudge x = new HistoryJudge();
        x.add(0, OPEN, 0, 0);
        x.add(1, ADD, 0, 1);
        x.add(1, ADD, 0, 1);
        x.add(2, ADD, 0, 2);
        x.add(2, ADD, 0, 2);
        Check.is("run", x.run(schedule("122112" + "122112")), true);
        Check.is("1 answers", x.event(1, 0), 3);
        Check.is("2 answers", x.event(3, 0), 2);
        orderIs(x, 3, 1, 4, 2);
    }

    private static void answerIsNotExplained(String what, HistoryJudge x) {
        String row = "111" + "222222" + "1";
        Check.is(what, x.run(schedule(row)), true);
        x.flaws(8);
        Check.is(what + " behind a late WRITE", x.run(schedule(row)), false);
    }

    /** A late WRITE of 5 has returned when branch 2 answers as if there were 0: no kind may do so. */
    private static void answersOfEachKindAreLookedAt() {
        for (int kind : new int[] {READ, ADD, SWAP, MOVE}) {
            HistoryJudge x = new HistoryJudge();
            x.add(0, OPEN, 0, 0);
            x.add(0, OPEN, 1, 0);
            x.add(1, WRITE, 0, 5);
            x.add(2, kind, 0, 1);
            answerIsNotExplained("kind " + kind, x);
        }
        HistoryJudge x = new HistoryJudge();
        x.add(0, OPEN, 0, 0);
        x.add(0, OPEN, 1, 0);
        x.add(1, WRITE, 1, 5);
        x.add(2, MOVE, 0, 0);
        x.add(2, CLOSE, 0, 0);
        answerIsNotExplained("CLOSE of what was moved", x);
    }

    /** What the cells hold at the end is no answer, so that no order needs to explain it. */
    private static void cellsAtTheEndAreNotLookedAt() {
        HistoryJudge x = new HistoryJudge();
        x.add(0, OPEN, 0, 0);
        x.add(1, WRITE, 0, 5);
        x.add(2, WRITE, 0, 6);
        x.add(2, READ, 0, 0);
        x.flaws(8);
        Check.is("run", x.run(schedule("111" + "2222222" + "1")), true);
        Check.is("the late WRITE came last", x.cell(0), 8 + 5);
        orderIs(x, 1, 2, 3);
    }

    /** What is late of the prefix is done before its next command, and before the branches. */
    private static void lateWritesOfThePrefix() {
        HistoryJudge x = new HistoryJudge();
        x.add(0, OPEN, 0, 1);
        x.add(0, WRITE, 0, 2);
        x.add(0, READ, 0, 0);
        x.add(0, WRITE, 0, 3);
        x.add(1, READ, 0, 0);
        x.add(2, READ, 0, 0);
        x.flaws(8);
        Check.is("run", x.run(schedule("121212")), true);
        Check.is("the READ of the prefix", x.event(2, 0), 2);
        Check.is("the READ of branch 1", x.event(4, 0), 3);
        Check.is("the READ of branch 2", x.event(5, 0), 3);
        Check.is("the first moment is a branch's", x.event(4, 2), 0);
    }

    /** The number is that of the CALL, though the WRITE is done two events later, and late. */
    private static void lateWriteOfAnAnswer() {
        HistoryJudge x = new HistoryJudge();
        x.add(0, OPEN, 0, 3);
        x.add(1, READ, 0, 0);
        x.add(1, WRITE, 0, 8 + 1);
        x.add(2, SWAP, 0, 6);
        x.flaws(8);
        Check.is("run", x.run(schedule("111" + "11" + "222" + "11")), true);
        Check.is("number", x.event(2, 1), 3);
        Check.is("SWAP answers", x.event(3, 0), 3);
        Check.is("cell", x.cell(0), 8 + 3);
        orderIs(x, 1, 2, 3);
    }
}
