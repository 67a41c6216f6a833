/** Promises 7 (fails) and 8 (shrink): each edge that the document names, in a test of its own. */
public final class ShrinkEdgesTest extends Bench {
    /** By this seed rareFailure fails by its run number 49 and by none before. */
    private static final long FAILS_AT_49 = 38L;

    /** By these seeds two ADDs fail by their run number 0, and by their run number 12. */
    private static final long FAILS_AT_0 = 1L;
    private static final long FAILS_AT_12 = 0L;

    private static final long[] WRAPPING = {Long.MAX_VALUE, Long.MIN_VALUE, -1L, Long.MAX_VALUE - 1};

    private ShrinkEdgesTest() {
    }

    public static void main(String[] args) {
        Check.runAllOf(ShrinkEdgesTest.class);
    }

    private static HistoryJudge flawedAdds() {
        HistoryJudge x = twoAdds();
        x.flaws(1);
        return x;
    }

    /** Two ADDs that can be lost, from a cell with one number, by two others. */
    private static HistoryJudge flawedAdds(int held, int one, int two) {
        HistoryJudge x = new HistoryJudge();
        x.add(0, OPEN, 0, held);
        x.add(1, ADD, 0, one);
        x.add(2, ADD, 0, two);
        x.flaws(1);
        return x;
    }

    private static HistoryJudge rareFailure() {
        HistoryJudge x = new HistoryJudge();
        x.add(0, OPEN, 0, 0);
        x.add(1, ADD, 0, 1);
        x.add(2, READ, 0, 0);
        x.add(2, READ, 0, 0);
        x.add(2, ADD, 0, 1);
        x.flaws(1);
        return x;
    }

    /** Runs schedule after schedule until one is not explained or all are done: what fails must answer. */
    private static int runDrawn(HistoryJudge y, long seed, int runs) {
        Drawing drawing = new Drawing(seed);
        for (int n = 0; n < runs; n++) {
            if (!y.run(drawing.schedule())) {
                return n;
            }
        }
        return NONE;
    }

    private static void failsRefuses(int runs) {
        HistoryJudge x = flawedAdds();
        x.run(schedule("122121"));
        String before = allOf(x);
        Check.fails("fails by " + runs, ARGUMENT, () -> x.fails(FAILS_AT_0, runs));
        Check.same("what is there behind it", allOf(x), before);
    }

    private static void failsByTooFewRuns() {
        failsRefuses(0);
        failsRefuses(-1);
        failsRefuses(LOWEST);
    }

    private static void failsByTooManyRuns() {
        failsRefuses(51);
        failsRefuses(HIGHEST);
    }

    private static void failsBy1Run() {
        HistoryJudge x = flawedAdds();
        Check.is("it fails", x.fails(FAILS_AT_0, 1), 0);
        Check.is("runs", x.count(1), 1);
        Check.is("unexplained", x.count(2), 1);
        Check.is("it does not fail", x.fails(FAILS_AT_12, 1), NONE);
        Check.is("runs", x.count(1), 2);
        Check.is("unexplained", x.count(2), 1);
    }

    private static void failsBy50Runs() {
        HistoryJudge x = twoAdds();
        Check.is("it does not fail", x.fails(FAILS_AT_0, 50), NONE);
        Check.is("runs", x.count(1), 50);
    }

    private static void failsByTheLastOf50Runs() {
        Check.is("by the document's words", runDrawn(rareFailure(), FAILS_AT_49, 50), 49);
        HistoryJudge x = rareFailure();
        Check.is("by 50", x.fails(FAILS_AT_49, 50), 49);
        Check.is("runs", x.count(1), 50);
        Check.is("unexplained", x.count(2), 1);
    }

    private static void doesNotFailByOneRunFewer() {
        HistoryJudge x = rareFailure();
        Check.is("by 49", x.fails(FAILS_AT_49, 49), NONE);
        Check.is("runs", x.count(1), 49);
        Check.is("unexplained", x.count(2), 0);
    }

    private static void theFirstFailureEndsIt() {
        HistoryJudge x = flawedAdds();
        Check.is("by 50", x.fails(FAILS_AT_12, 50), 12);
        Check.is("runs", x.count(1), 13);
        Check.is("unexplained", x.count(2), 1);
        HistoryJudge y = flawedAdds();
        runDrawn(y, FAILS_AT_12, 50);
        Check.same("it is the latest run", latestRunOf(x), latestRunOf(y));
        Check.fails("it was not explained", ELEMENT, () -> x.order(0));
    }

    private static void failsOfAProgramThatDoesNot() {
        HistoryJudge x = twoAdds();
        Check.is("by 7", x.fails(3L, 7), NONE);
        Check.is("runs", x.count(1), 7);
        Check.is("ADDs", x.tally(ADD), 14);
        HistoryJudge y = twoAdds();
        Drawing drawing = new Drawing(3L);
        int last = 0;
        for (int n = 0; n < 7; n++) {
            last = drawing.schedule();
        }
        y.run(last);
        Check.same("the last is the latest run", latestRunOf(x), latestRunOf(y));
    }

    private static void failsOfAnEmptyProgram() {
        HistoryJudge x = new HistoryJudge();
        x.flaws(15);
        Check.is("by 50", x.fails(1L, 50), NONE);
        Check.same("counts", countsOf(x), "0 50 0 0 0 0 0 0 0 0 0 ");
        Check.fails("there was a run", ELEMENT, () -> x.order(0));
    }

    private static void failsBeginsAnewEachTime() {
        HistoryJudge x = flawedAdds();
        String before = commandsOf(x);
        for (int n = 0; n < 3; n++) {
            Check.is("by 50", x.fails(FAILS_AT_12, 50), 12);
        }
        Check.is("runs", x.count(1), 39);
        Check.same("commands", commandsOf(x), before);
    }

    private static void failsBySeedsWhoseStateWraps() {
        for (long seed : WRAPPING) {
            HistoryJudge x = rareFailure();
            HistoryJudge y = rareFailure();
            Check.is("by seed " + seed, x.fails(seed, 50), runDrawn(y, seed, 50));
            Check.same("all that is told by seed " + seed, allOf(x), allOf(y));
        }
    }

    private static void shrinkRefuses(int runs) {
        HistoryJudge x = flawedAdds();
        x.run(schedule("122121"));
        String before = allOf(x);
        Check.fails("shrink by " + runs, ARGUMENT, () -> x.shrink(FAILS_AT_0, runs));
        Check.same("what is there behind it", allOf(x), before);
    }

    private static void shrinkByTooFewRuns() {
        shrinkRefuses(0);
        shrinkRefuses(-1);
        shrinkRefuses(LOWEST);
    }

    private static void shrinkByTooManyRuns() {
        shrinkRefuses(51);
        shrinkRefuses(HIGHEST);
    }

    /** The document names the runs first. */
    private static void shrinkByTooManyRunsOfAProgramThatDoesNotFail() {
        HistoryJudge x = twoAdds();
        Check.fails("by 51", ARGUMENT, () -> x.shrink(1L, 51));
        Check.fails("by 0", ARGUMENT, () -> x.shrink(1L, 0));
        Check.is("runs", x.count(1), 0);
    }

    /**
     * Each round runs both removals and both moves to the prefix once; the prefix's 5 becomes 0, the 3
     * is not 0 but 1, the 1s are not 0: 1 + (4 + 1) + (4 + 2) + (4 + 2) runs, and once more.
     */
    private static void shrinkBy1Run() {
        HistoryJudge x = flawedAdds();
        Check.is("taken", x.shrink(FAILS_AT_0, 1), 2);
        Check.same("commands", commandsOf(x), "0 0 0 0,1 4 0 1,2 4 0 1,");
        Check.is("runs", x.count(1), 19);
        Check.is("unexplained", x.count(2), 4);
        Check.is("taken in all", x.count(3), 2);
        Check.is("OPENs", x.tally(OPEN), 19);
        Check.is("ADDs", x.tally(ADD), 2 * 19 - 6);
    }

    private static void shrinkBy50Runs() {
        HistoryJudge x = rareFailure();
        Check.is("both READs go", x.shrink(FAILS_AT_49, 50), 2);
        Check.same("commands", commandsOf(x), "0 0 0 0,1 4 0 1,2 4 0 1,");
    }

    private static void shrinkByRunsThatEndBeforeTheFailure() {
        HistoryJudge x = flawedAdds();
        Check.fails("by 12", STATE, () -> x.shrink(FAILS_AT_12, 12));
        Check.is("runs", x.count(1), 12);
        Check.is("unexplained", x.count(2), 0);
        Check.is("by 13", x.shrink(FAILS_AT_12, 13), 2);
    }

    private static void shrinkOfAProgramThatDoesNotFail() {
        HistoryJudge x = twoAdds();
        x.run(schedule("122121"));
        String commands = commandsOf(x);
        Check.fails("by 20", STATE, () -> x.shrink(5L, 20));
        HistoryJudge y = twoAdds();
        y.run(schedule("122121"));
        Check.is("the same runs", runDrawn(y, 5L, 20), NONE);
        Check.same("the program stays", commandsOf(x), commands);
        Check.same("the last is the latest run", latestRunOf(x), latestRunOf(y));
        Check.same("they count", countsOf(x), "3 21 0 0 21 0 0 0 42 0 0 ");
        Check.is("no flaws", x.flaws(0), 0);
    }

    private static void shrinkThatIsRefusedIsARunLikeOthers() {
        HistoryJudge x = twoAdds();
        Check.fails("before", STATE, () -> x.cell(0));
        Check.fails("by 1", STATE, () -> x.shrink(5L, 1));
        Check.is("behind it", x.cell(0), 8 + 1);
        x.add(0, READ, 0, 0);
        Check.fails("behind add", STATE, () -> x.cell(0));
        Check.fails("by 1", STATE, () -> x.shrink(5L, 1));
        Check.is("behind it", x.cell(0), 8 + 1);
    }

    private static void shrinkOfAnEmptyProgram() {
        HistoryJudge x = new HistoryJudge();
        x.flaws(15);
        Check.fails("by 50", STATE, () -> x.shrink(1L, 50));
        Check.same("counts", countsOf(x), "0 50 0 0 0 0 0 0 0 0 0 ");
        Check.fails("there was a run", ELEMENT, () -> x.order(0));
        Check.is("cell", x.cell(2), 0);
    }

    /** A row of READs, each of which the next one stands for, then two ADDs of what the last one read. */
    private static HistoryJudge readsBefore(int prefix) {
        HistoryJudge x = new HistoryJudge();
        x.add(0, OPEN, 0, 1);
        for (int n = 1; n < prefix; n++) {
            x.add(0, READ, 0, 8 + n - 1);
        }
        x.add(1, READ, 0, 8 + prefix - 1);
        x.add(1, ADD, 0, 8 + prefix);
        x.add(2, READ, 0, 8 + prefix - 1);
        x.add(2, ADD, 0, 8 + prefix + 2);
        x.flaws(1);
        return x;
    }

    private static void shrinkWithAFullPrefix() {
        HistoryJudge x = readsBefore(6);
        String before = commandsOf(x);
        Check.is("taken", x.shrink(1L, 50), 0);
        Check.same("commands", commandsOf(x), before);
    }

    private static void shrinkWithRoomForOneInThePrefix() {
        HistoryJudge x = readsBefore(5);
        Check.is("taken", x.shrink(1L, 50), 1);
        Check.same("branch 1's READ alone", commandsOf(x),
                "0 0 0 1,0 2 0 8,0 2 0 9,0 2 0 10,0 2 0 11,0 2 0 12,1 4 0 13,2 2 0 12,2 4 0 15,");
    }

    private static void shrinkWithRoomForTwoInThePrefix() {
        HistoryJudge x = readsBefore(4);
        Check.is("taken", x.shrink(1L, 50), 2);
        Check.same("both READs", commandsOf(x),
                "0 0 0 1,0 2 0 8,0 2 0 9,0 2 0 10,0 2 0 11,0 2 0 11,1 4 0 12,2 4 0 13,");
    }

    private static void shrinkKeepsWhatAnArgumentStandsFor() {
        HistoryJudge x = new HistoryJudge();
        x.add(0, OPEN, 0, 1);
        x.add(0, READ, 0, 0);
        x.add(1, ADD, 0, 8 + 1);
        x.add(2, ADD, 0, 1);
        x.flaws(1);
        String before = commandsOf(x);
        Check.is("taken", x.shrink(1L, 50), 0);
        Check.same("commands", commandsOf(x), before);
    }

    private static void shrinkLeavesOutWhatNoArgumentStandsFor() {
        HistoryJudge x = new HistoryJudge();
        x.add(0, OPEN, 0, 0);
        x.add(0, READ, 0, 0);
        x.add(1, ADD, 0, 1);
        x.add(2, ADD, 0, 1);
        x.flaws(1);
        Check.is("taken", x.shrink(1L, 50), 1);
        Check.same("commands", commandsOf(x), "0 0 0 0,1 4 0 1,2 4 0 1,");
    }

    /** The last one in the row goes first, then the one before it, for which nothing stands any longer. */
    private static void shrinkLeavesOutARowFromItsEnd() {
        HistoryJudge x = new HistoryJudge();
        x.add(0, OPEN, 0, 0);
        x.add(0, READ, 0, 8 + 0);
        x.add(0, READ, 0, 8 + 1);
        x.add(0, READ, 0, 8 + 2);
        x.add(1, ADD, 0, 1);
        x.add(2, ADD, 0, 1);
        x.flaws(1);
        Check.is("taken", x.shrink(1L, 50), 3);
        Check.same("commands", commandsOf(x), "0 0 0 0,1 4 0 1,2 4 0 1,");
    }

    private static void shrinkLetsArgumentsGoAlongWithALaterCommand() {
        HistoryJudge x = new HistoryJudge();
        x.add(0, OPEN, 0, 1);
        x.add(0, READ, 0, 0);
        x.add(0, READ, 0, 8 + 0);
        x.add(1, ADD, 0, 8 + 2);
        x.add(2, ADD, 0, 1);
        x.flaws(1);
        Check.is("the first READ", x.shrink(1L, 50), 1);
        Check.same("commands", commandsOf(x), "0 0 0 1,0 2 0 8,1 4 0 9,2 4 0 1,");
    }

    /** Either ADD of branch 1 could go: the later one does. */
    private static void shrinkLeavesOutTheLastFirst() {
        HistoryJudge x = new HistoryJudge();
        x.add(0, OPEN, 0, 0);
        x.add(1, ADD, 0, 1);
        x.add(1, ADD, 0, 3);
        x.add(2, ADD, 0, 1);
        x.flaws(1);
        Check.is("taken", x.shrink(1L, 50), 1);
        Check.same("commands", commandsOf(x), "0 0 0 0,1 4 0 1,2 4 0 1,");
    }

    /** Nothing but numbers is left to take, so each candidate that is none shows in the runs. */
    private static void shrinkOfNumber1TriesOnly0() {
        HistoryJudge x = flawedAdds(0, 1, 1);
        Check.is("taken", x.shrink(FAILS_AT_12, 50), 0);
        Check.is("2 removals, 2 moves, 2 numbers", x.count(1), 13 + 6 * 50 + 1);
    }

    private static void shrinkOfNumber1To0() {
        HistoryJudge x = flawedAdds(1, 1, 1);
        Check.is("taken", x.shrink(1L, 50), 1);
        Check.same("commands", commandsOf(x), "0 0 0 0,1 4 0 1,2 4 0 1,");
    }

    private static void shrinkOfNumber2To0() {
        HistoryJudge x = flawedAdds(2, 1, 1);
        Check.is("not by 1", x.shrink(1L, 50), 1);
        Check.same("commands", commandsOf(x), "0 0 0 0,1 4 0 1,2 4 0 1,");
    }

    private static void shrinkOfNumber2ToHalf() {
        HistoryJudge x = flawedAdds(0, 2, 1);
        Check.is("taken", x.shrink(FAILS_AT_12, 50), 1);
        Check.same("commands", commandsOf(x), "0 0 0 0,1 4 0 1,2 4 0 1,");
        Check.is("0, then 1, then anew", x.count(1), 13 + 5 * 50 + 13 + 6 * 50 + 1);
    }

    private static void shrinkOfNumber3ToHalfRoundedDown() {
        HistoryJudge x = flawedAdds(0, 1, 3);
        Check.is("taken", x.shrink(1L, 50), 1);
        Check.same("commands", commandsOf(x), "0 0 0 0,1 4 0 1,2 4 0 1,");
    }

    private static void shrinkOfNumber7() {
        HistoryJudge x = flawedAdds(7, 7, 7);
        Check.is("7 to 0; 7 to 3 to 1, twice", x.shrink(1L, 50), 5);
        Check.same("commands", commandsOf(x), "0 0 0 0,1 4 0 1,2 4 0 1,");
    }

    /** SWAPs fail while the cell held neither of their numbers: the first command's number goes first. */
    private static void shrinkLowersTheFirstCommandFirst() {
        HistoryJudge x = new HistoryJudge();
        x.add(0, OPEN, 0, 1);
        x.add(1, SWAP, 0, 2);
        x.add(2, SWAP, 0, 3);
        x.flaws(2);
        Check.is("1 to 0, 2 to 1, 3 to 1", x.shrink(1L, 50), 3);
        Check.same("commands", commandsOf(x), "0 0 0 0,1 5 0 1,2 5 0 1,");
    }

    /** An argument that stands for an answer is no number, however high. */
    private static void shrinkLeavesWhatIsNoNumber() {
        HistoryJudge x = new HistoryJudge();
        x.add(0, OPEN, 0, 1);
        x.add(1, ADD, 0, 8 + 0);
        x.add(1, ADD, 0, 1);
        x.add(2, ADD, 0, 1);
        x.flaws(1);
        x.shrink(1L, 50);
        Check.same("commands", commandsOf(x), "0 0 0 0,1 4 0 1,2 4 0 1,");
        HistoryJudge y = readsBefore(6);
        y.shrink(1L, 50);
        Check.is("it stands for an answer yet", y.command(9, 3), 8 + 8);
    }

    private static void shrinkTakesNoCandidateThatIsNotValid() {
        HistoryJudge x = new HistoryJudge();
        x.add(1, OPEN, 1, 0);
        x.add(0, OPEN, 0, 0);
        x.add(1, ADD, 0, 1);
        x.add(1, READ, 1, 0);
        x.add(2, ADD, 0, 1);
        x.flaws(1);
        Check.is("READ, then OPEN", x.shrink(1L, 50), 2);
        Check.same("commands", commandsOf(x), "0 0 0 0,1 4 0 1,2 4 0 1,");
    }

    private static void shrinkRunsItOnceMoreAsItFails() {
        HistoryJudge x = rareFailure();
        x.shrink(FAILS_AT_49, 50);
        HistoryJudge y = flawedAdds(0, 1, 1);
        Check.is("it fails", runDrawn(y, FAILS_AT_49, 50) >= 0, true);
        Check.same("the latest run", latestRunOf(x), latestRunOf(y));
        Check.fails("it was not explained", ELEMENT, () -> x.order(0));
    }

    private static void shrinkRunsItOnceMoreWithOneRun() {
        HistoryJudge x = flawedAdds(0, 1, 1);
        HistoryJudge y = flawedAdds(0, 1, 1);
        Check.is("by the document's words", runDrawn(y, FAILS_AT_12, 50), 12);
        x.shrink(FAILS_AT_12, 13);
        Check.is("13 first, 13 for each candidate, 1", x.count(1), 13 + 6 * 13 + 1);
        Check.is("unexplained", x.count(2), 2);
        Check.same("the latest run", latestRunOf(x), latestRunOf(y));
    }

    private static void shrinkOfTheSmallest() {
        HistoryJudge x = flawedAdds(0, 1, 1);
        x.flaws(15);
        Check.is("taken", x.shrink(1L, 50), 0);
        Check.is("first, and once more", x.count(2), 2);
        Check.is("taken in all", x.count(3), 0);
        Check.is("flaws stay", x.flaws(0), 15);
    }

    private static void shrinkCountsWhatItTookInAll() {
        HistoryJudge x = flawedAdds(7, 7, 7);
        Check.is("taken", x.shrink(1L, 50), 5);
        Check.is("taken", x.shrink(1L, 50), 0);
        Check.is("in all", x.count(3), 5);
        x.clear();
        x.add(0, OPEN, 0, 1);
        x.add(1, ADD, 0, 1);
        x.add(2, ADD, 0, 1);
        Check.is("taken", x.shrink(1L, 50), 1);
        Check.is("in all", x.count(3), 6);
    }

    private static void shrinkBySeedsWhoseStateWraps() {
        for (long seed : WRAPPING) {
            HistoryJudge x = flawedAdds();
            HistoryJudge y = flawedAdds(0, 1, 1);
            Check.is("by seed " + seed, x.shrink(seed, 50), 2);
            Check.same("commands by seed " + seed, commandsOf(x), commandsOf(y));
            Check.is("it fails by seed " + seed, runDrawn(y, seed, 50) >= 0, true);
            Check.same("the latest run by seed " + seed, latestRunOf(x), latestRunOf(y));
        }
    }

    /** Two SWAPs that fail, and commands beside them that have nothing to do with it. */
    private static HistoryJudge flawedSwaps(int cells) {
        HistoryJudge x = new HistoryJudge();
        x.add(0, OPEN, 0, 1);
        for (int c = 1; c <= cells; c++) {
            x.add(0, OPEN, c, 0);
        }
        x.flaws(2);
        return x;
    }

    private static void shrinkLeavesOutEachKind() {
        for (int branch = 0; branch < 3; branch++) {
            for (int kind = OPEN; kind <= MOVE; kind++) {
                HistoryJudge x = flawedSwaps(kind == OPEN ? 0 : 2);
                x.add(branch, kind, 1, 4);
                x.add(1, SWAP, 0, 0);
                x.add(2, SWAP, 0, 0);
                Check.is("kind " + kind + " of branch " + branch, x.shrink(1L, 50), kind == OPEN ? 1 : 3);
                Check.same("commands", commandsOf(x), "0 0 0 1,1 5 0 0,2 5 0 0,");
            }
        }
    }

    /** The command is kept, for a SWAP stands for its answer; it moves, and its 5 becomes 0. */
    private static void shrinkMovesAndLowersEachKind() {
        for (int branch = 1; branch < 3; branch++) {
            for (int kind = OPEN; kind <= MOVE; kind++) {
                int cells = kind == OPEN ? 0 : kind == MOVE ? 2 : 1;
                HistoryJudge x = flawedSwaps(cells);
                x.add(branch, kind, 1, 5);
                x.add(branch, SWAP, 0, 8 + 1 + cells);
                x.add(3 - branch, SWAP, 0, 0);
                Check.is("kind " + kind + " of branch " + branch, x.shrink(1L, 50), 2);
                commandIs(x, 1 + cells, 0, kind, 1, 0);
                commandIs(x, 2 + cells, 1, SWAP, 0, branch == 1 ? 8 + 1 + cells : 0);
                commandIs(x, 3 + cells, 2, SWAP, 0, branch == 2 ? 8 + 1 + cells : 0);
                Check.is("commands", x.count(0), 4 + cells);
            }
        }
    }

    /** Each command but the OPEN and the last of each branch goes, the last first. */
    private static void shrinkOf14CommandsTo3() {
        HistoryJudge x = new HistoryJudge();
        x.add(0, OPEN, 0, 7);
        for (int n = 1; n < 6; n++) {
            x.add(0, READ, 0, n);
        }
        for (int branch = 1; branch < 3; branch++) {
            for (int n = 0; n < 3; n++) {
                x.add(branch, READ, 0, n);
            }
            x.add(branch, ADD, 0, 7);
        }
        x.flaws(1);
        Check.is("11 READs; 7 to 0; 7 to 3 to 1, twice", x.shrink(1L, 50), 16);
        Check.same("commands", commandsOf(x), "0 0 0 0,1 4 0 1,2 4 0 1,");
    }

    /**
     * By this seed the one run fails, and no longer does when a branch has a command less, so that
     * nothing can go but the numbers: those of READs to 0, those of ADDs by halves to 1.
     */
    private static void shrinkLowersTheNumbersOf14Commands() {
        HistoryJudge x = new HistoryJudge();
        x.add(0, OPEN, 0, 7);
        for (int n = 1; n < 6; n++) {
            x.add(0, READ, 0, 8 + n - 1);
        }
        x.add(1, READ, 0, 8 + 5);
        x.add(1, READ, 0, 7);
        x.add(1, READ, 0, 7);
        x.add(1, ADD, 0, 7);
        x.add(2, READ, 0, 7);
        x.add(2, READ, 0, 7);
        x.add(2, READ, 0, 7);
        x.add(2, ADD, 0, 7);
        x.flaws(1);
        Check.is("OPEN, 5 READs, 2 ADDs twice", x.shrink(2L, 1), 10);
        Check.same("commands", commandsOf(x), "0 0 0 0,0 2 0 8,0 2 0 9,0 2 0 10,0 2 0 11,0 2 0 12,"
                + "1 2 0 13,1 2 0 0,1 2 0 0,1 4 0 1,2 2 0 0,2 2 0 0,2 2 0 0,2 4 0 1,");
        Check.is("11 rounds of 8 removals, 21 numbers, first and last", x.count(1), 1 + 11 * 8 + 21 + 1);
        Check.is("unexplained", x.count(2), 1 + 10 + 1);
    }

    /** The longest shrinking that a search over many seeds has found. */
    private static void shrinkThatTakes20() {
        HistoryJudge x = new HistoryJudge();
        Reference y = new Reference();
        x.flaws(15);
        y.flaws(15);
        Check.is("make", x.make(13928L, 6, 4, 4), y.make(13928L, 6, 4, 4));
        Check.is("taken", x.shrink(0L, 50), 20);
        Check.is("taken, by the plainest form", y.shrink(0L, 50), 20);
        Check.same("commands", commandsOf(x), "0 0 1 0,0 0 2 1,1 4 1 1,2 6 1 0,");
        Check.is("runs", x.count(1), y.count(1));
        Check.is("unexplained", x.count(2), y.count(2));
    }

    /** Seeds of which the lowest 32 bits alone would draw other schedules. */
    private static void shrinkByTheWholeSeed() {
        for (long seed : new long[] {1L << 32, 5L << 40, -(1L << 50), Long.MAX_VALUE, Long.MIN_VALUE}) {
            HistoryJudge y = flawedAdds(0, 1, 1);
            int first = runDrawn(y, seed, 50);
            Check.is("it fails by seed " + seed, first >= 0, true);
            HistoryJudge x = flawedAdds(0, 2, 1);
            Check.is("taken by seed " + seed, x.shrink(seed, 50), 1);
            Check.is("runs by seed " + seed, x.count(1), 2 * (first + 1) + 11 * 50 + 1);
            Check.same("the latest run by seed " + seed, latestRunOf(x), latestRunOf(y));
        }
    }

    /** SWAPs of 0 fail while the cell holds something: the number that it is made to hold goes down to 1. */
    private static void shrinkHalvesEachNumberOfThePrefix() {
        for (int at = 0; at < 6; at++) {
            HistoryJudge x = new HistoryJudge();
            x.add(0, OPEN, 0, at == 0 ? 7 : 0);
            for (int n = 1; n < at; n++) {
                x.add(0, READ, 0, 8 + n - 1);
            }
            if (at > 0) {
                x.add(0, WRITE, 0, 7);
            }
            x.add(1, SWAP, 0, at > 1 ? 8 + at - 1 : 0);
            x.add(2, SWAP, 0, 0);
            x.flaws(2);
            int commands = x.count(0);
            Check.is("7 to 3 to 1 of command " + at, x.shrink(1L, 50), 2);
            Check.is("commands", x.count(0), commands);
            Check.is("argument", x.command(at, 3), 1);
        }
    }

    /** The READ that has a number does not use it, and is kept, for a SWAP stands for its answer. */
    private static void shrinkTo0EachNumberOfThePrefix() {
        for (int at = 2; at < 6; at++) {
            HistoryJudge x = new HistoryJudge();
            x.add(0, OPEN, 0, 1);
            x.add(0, OPEN, 1, 8 + 0);
            for (int n = 2; n < at; n++) {
                x.add(0, READ, 1, 8 + n - 1);
            }
            x.add(0, READ, 1, 7);
            x.add(1, SWAP, 0, 8 + at - 1);
            x.add(2, SWAP, 0, 8 + at);
            x.flaws(2);
            Check.is("7 to 0 of command " + at, x.shrink(1L, 50), 1);
            commandIs(x, at, 0, READ, 1, 0);
            Check.is("commands", x.count(0), at + 3);
        }
    }

    /** A full prefix, then READs and an ADD in each branch; nothing can leave the prefix. */
    private static HistoryJudge readsAndAnAdd(int readsOfOne, int readsOfTwo) {
        HistoryJudge x = new HistoryJudge();
        x.add(0, OPEN, 0, 1);
        for (int n = 1; n < 6; n++) {
            x.add(0, READ, 0, 8 + n - 1);
        }
        for (int n = 0; n < readsOfOne; n++) {
            x.add(1, READ, 0, 7);
        }
        x.add(1, ADD, 0, readsOfTwo == 0 ? 7 : 8 + 5);
        for (int n = 0; n < readsOfTwo; n++) {
            x.add(2, READ, 0, 7);
        }
        x.add(2, ADD, 0, readsOfTwo == 0 ? 8 + 5 : 7);
        x.flaws(1);
        return x;
    }

    /** One by which the one run fails, and no longer does when a branch has a command less. */
    private static long seedThatKeepsAll(int readsOfOne, int readsOfTwo) {
        for (long seed = 0; seed < 2000; seed++) {
            HistoryJudge x = readsAndAnAdd(readsOfOne, readsOfTwo);
            int commands = x.count(0);
            if (x.fails(seed, 1) == 0 && x.shrink(seed, 1) > 0 && x.count(0) == commands) {
                return seed;
            }
        }
        Check.tell("no seed for " + readsOfOne + " and " + readsOfTwo);
        return 0;
    }

    private static void shrinkLowersEachNumberOfTheBranches() {
        for (int one = 0; one < 4; one++) {
            for (int two = 0; two < 4; two++) {
                HistoryJudge x = readsAndAnAdd(one, two);
                int commands = x.count(0);
                x.shrink(seedThatKeepsAll(one, two), 1);
                Check.is("commands", x.count(0), commands);
                for (int n = 0; n < one; n++) {
                    commandIs(x, 6 + n, 1, READ, 0, 0);
                }
                commandIs(x, 6 + one, 1, ADD, 0, two == 0 ? 1 : 8 + 5);
                for (int n = 0; n < two; n++) {
                    commandIs(x, 7 + one + n, 2, READ, 0, 0);
                }
                commandIs(x, 7 + one + two, 2, ADD, 0, two == 0 ? 8 + 5 : 1);
            }
        }
    }
}
