/**
 * Promises 1 (a new object), 3 (clear), 4 (make), 5 (flaws) and 9 (command): each edge that the
 * document names, in a test of its own. What make draws by a seed that is written here was worked out
 * outside Java, with numbers that have no bound.
 */
public final class ProgramEdgesTest extends Bench {
    /** By these seeds the first OPEN of an empty program comes after so many other kinds. */
    private static final long OPEN_AFTER_19 = 52L;
    private static final long OPEN_AFTER_20 = 137L;
    private static final long OPEN_AFTER_39 = 213L;
    private static final long OPEN_AFTER_40 = 22269L;

    private ProgramEdgesTest() {
    }

    public static void main(String[] args) {
        Check.runAllOf(ProgramEdgesTest.class);
    }

    private static void newHasNoCommands() {
        HistoryJudge x = new HistoryJudge();
        Check.is("commands", x.count(0), 0);
        Check.fails("command 0", INDEX, () -> x.command(0, 0));
        Check.is("clear", x.clear(), 0);
    }

    private static void newHasNoFlaws() {
        Check.is("flaws", new HistoryJudge().flaws(15), 0);
        HistoryJudge x = full(ADD);
        x.run(schedule("1212121212121212121212121212121"));
        Check.is("three events each", x.event(9, 3), 22);
    }

    private static void newHasNoRun() {
        Check.same("counts", countsOf(new HistoryJudge()), "0 0 0 0 0 0 0 0 0 0 0 ");
    }

    private static void newIsApartFromOthers() {
        HistoryJudge x = twoAdds();
        x.flaws(15);
        x.run(0);
        HistoryJudge y = new HistoryJudge();
        Check.is("commands", y.count(0), 0);
        Check.is("runs", y.count(1), 0);
        Check.is("flaws", y.flaws(0), 0);
        Check.is("the other's commands", x.count(0), 3);
    }

    private static void clearOfNothing() {
        HistoryJudge x = new HistoryJudge();
        Check.is("how many", x.clear(), 0);
        Check.is("how many", x.clear(), 0);
        Check.is("commands", x.count(0), 0);
    }

    private static void clearOfOne() {
        HistoryJudge x = new HistoryJudge();
        x.add(2, OPEN, 0, 0);
        Check.is("how many", x.clear(), 1);
        Check.is("how many", x.clear(), 0);
    }

    private static void clearOfAll() {
        HistoryJudge x = full(ADD);
        Check.is("how many", x.clear(), 14);
        Check.is("commands", x.count(0), 0);
        Check.fails("command 0", INDEX, () -> x.command(0, 0));
        Check.fails("an answer that is gone", ARGUMENT, () -> x.add(0, OPEN, 0, 8));
        Check.fails("a cell that is closed again", UNSUPPORTED, () -> x.add(0, READ, 0, 0));
        for (int branch = 0; branch < 3; branch++) {
            Check.is("room in branch " + branch, x.add(branch, OPEN, branch, 0), branch);
        }
    }

    private static void clearLeavesFlawsAndCounts() {
        HistoryJudge x = twoAdds();
        x.flaws(1);
        x.run(schedule("12121212"));
        x.shrink(1L, 50);
        int runs = x.count(1);
        int unexplained = x.count(2);
        int taken = x.count(3);
        int adds = x.tally(ADD);
        Check.is("something was taken", taken > 0, true);
        x.clear();
        Check.is("flaws", x.flaws(1), 1);
        Check.is("runs", x.count(1), runs);
        Check.is("unexplained", x.count(2), unexplained);
        Check.is("taken", x.count(3), taken);
        Check.is("ADDs", x.tally(ADD), adds);
    }

    private static void makeRefuses(String what, int p, int a, int b) {
        HistoryJudge x = full(ADD);
        x.run(0);
        String before = allOf(x);
        Check.fails(what, ARGUMENT, () -> x.make(1L, p, a, b));
        Check.same("what is there behind it", allOf(x), before);
    }

    private static void makePrefixOutside() {
        makeRefuses("p -1", -1, 2, 2);
        makeRefuses("p 7", 7, 2, 2);
        makeRefuses("lowest p", LOWEST, 2, 2);
        makeRefuses("highest p", HIGHEST, 2, 2);
    }

    private static void makeBranch1Outside() {
        makeRefuses("a -1", 2, -1, 2);
        makeRefuses("a 5", 2, 5, 2);
        makeRefuses("lowest a", 2, LOWEST, 2);
        makeRefuses("highest a", 2, HIGHEST, 2);
    }

    private static void makeBranch2Outside() {
        makeRefuses("b -1", 2, 2, -1);
        makeRefuses("b 5", 2, 2, 5);
        makeRefuses("lowest b", 2, 2, LOWEST);
        makeRefuses("highest b", 2, 2, HIGHEST);
    }

    private static void makeOfNothing() {
        HistoryJudge x = full(READ);
        Check.is("make", x.make(1L, 0, 0, 0), 0);
        Check.is("commands", x.count(0), 0);
    }

    private static void makePrefixOf6() {
        HistoryJudge x = new HistoryJudge();
        Check.is("make", x.make(0L, 6, 0, 0), 6);
        Check.same("commands", commandsOf(x), "0 0 2 6,0 0 0 7,0 6 2 3,0 1 0 9,0 2 2 3,0 5 2 2,");
    }

    private static void makeBranch1Of4() {
        HistoryJudge x = new HistoryJudge();
        Check.is("make", x.make(0L, 0, 4, 0), 4);
        for (int i = 0; i < 4; i++) {
            Check.is("branch of " + i, x.command(i, 0), 1);
        }
    }

    private static void makeBranch2Of4() {
        HistoryJudge x = new HistoryJudge();
        Check.is("make", x.make(0L, 0, 0, 4), 4);
        for (int i = 0; i < 4; i++) {
            Check.is("branch of " + i, x.command(i, 0), 2);
        }
    }

    private static void makeAllOf14() {
        HistoryJudge x = new HistoryJudge();
        Check.is("make", x.make(0L, 6, 4, 4), 14);
        Check.same("commands", commandsOf(x), "0 0 2 6,0 0 0 7,0 6 2 3,0 1 0 9,0 2 2 3,0 5 2 2,"
                + "1 0 0 8,1 4 2 7,1 2 2 0,1 5 0 2,2 0 1 2,2 5 1 0,2 5 1 3,2 4 2 12,");
    }

    private static void makeFindsAtTheTwentiethTry() {
        HistoryJudge x = new HistoryJudge();
        Check.is("make", x.make(OPEN_AFTER_19, 1, 0, 0), 1);
        commandIs(x, 0, 0, OPEN, 1, 1);
    }

    private static void makeLeavesOutBehindTwentyTries() {
        HistoryJudge x = new HistoryJudge();
        Check.is("make", x.make(OPEN_AFTER_20, 1, 0, 0), 0);
        Check.is("commands", x.count(0), 0);
        Check.is("in branch 1", x.make(OPEN_AFTER_20, 0, 1, 0), 0);
        Check.is("in branch 2", x.make(OPEN_AFTER_20, 0, 0, 1), 0);
    }

    private static void makeGoesOnBehindOneLeftOut() {
        HistoryJudge x = new HistoryJudge();
        Check.is("the next of the prefix", x.make(OPEN_AFTER_20, 2, 0, 0), 1);
        commandIs(x, 0, 0, OPEN, 2, 5);
        Check.is("the next is branch 1's", x.make(OPEN_AFTER_20, 1, 1, 0), 1);
        commandIs(x, 0, 1, OPEN, 2, 5);
        Check.is("the next is branch 2's", x.make(OPEN_AFTER_20, 1, 0, 1), 1);
        commandIs(x, 0, 2, OPEN, 2, 5);
    }

    private static void makeTriesTheNextTwentyTimesToo() {
        HistoryJudge x = new HistoryJudge();
        Check.is("found at the last try", x.make(OPEN_AFTER_39, 2, 0, 0), 1);
        commandIs(x, 0, 0, OPEN, 2, 0);
        Check.is("found one too late", x.make(OPEN_AFTER_40, 2, 0, 0), 0);
        Check.is("found by a third", x.make(OPEN_AFTER_40, 3, 0, 0), 1);
    }

    private static void makeByASeedWhoseStateWraps() {
        HistoryJudge x = new HistoryJudge();
        Check.is("highest seed", x.make(Long.MAX_VALUE, 6, 4, 4), 14);
        Check.same("commands", commandsOf(x), "0 0 1 2,0 4 1 5,0 5 1 6,0 0 2 7,0 4 1 11,0 5 1 4,"
                + "1 1 1 0,1 0 1 4,1 6 1 1,1 4 1 5,2 0 0 3,2 3 0 10,2 3 0 6,2 2 0 9,");
        Check.is("lowest seed", x.make(Long.MIN_VALUE, 6, 4, 4), 11);
        Check.same("commands", commandsOf(x), "0 0 1 7,0 4 1 2,0 4 1 3,0 3 1 1,0 2 1 3,0 3 1 10,"
                + "1 1 1 6,1 0 0 3,1 3 0 7,1 1 0 0,2 0 2 12,");
        Check.is("seed -1", x.make(-1L, 6, 4, 4), 14);
        Check.same("commands", commandsOf(x), "0 0 2 3,0 3 2 8,0 4 2 6,0 3 2 7,0 4 2 6,0 3 2 8,"
                + "1 4 2 4,1 1 2 4,1 0 0 13,1 3 0 6,2 0 1 6,2 4 1 1,2 5 1 1,2 4 1 1,");
    }

    private static void makeBySeedsNearTheEnds() {
        long[] near = {0L, Long.MAX_VALUE, Long.MIN_VALUE, 1L << 33, 1L << 31};
        for (long end : near) {
            for (long by = -3; by <= 3; by++) {
                HistoryJudge x = new HistoryJudge();
                HistoryJudge y = new HistoryJudge();
                x.make(end + by, 6, 4, 4);
                addDrawn(y, end + by, 6, 4, 4);
                Check.same("commands by " + (end + by), commandsOf(x), commandsOf(y));
            }
        }
    }

    /** By this seed the number below 4 is 0 while there is no command to stand for. */
    private static void makeWithNothingToStandFor() {
        HistoryJudge x = new HistoryJudge();
        Check.is("make", x.make(32L, 1, 0, 0), 1);
        commandIs(x, 0, 0, OPEN, 1, 5);
    }

    /** The draw below 1 moves the state, too: the third command shows it. */
    private static void makeWithOneToStandFor() {
        HistoryJudge x = new HistoryJudge();
        Check.is("make", x.make(2L, 3, 0, 0), 3);
        Check.same("commands", commandsOf(x), "0 0 2 1,0 4 2 8,0 1 2 4,");
    }

    private static void makeOfBranch2SkipsBranch1() {
        HistoryJudge x = new HistoryJudge();
        Check.is("make", x.make(22L, 1, 1, 3), 5);
        Check.same("commands", commandsOf(x), "0 0 0 4,1 0 2 0,2 2 0 8,2 4 0 4,2 0 1 11,");
    }

    private static void makeBeginsAnewEachTime() {
        HistoryJudge x = full(READ);
        x.flaws(6);
        Check.is("make", x.make(2L, 2, 0, 0), 2);
        Check.is("make", x.make(2L, 2, 0, 0), 2);
        Check.same("commands", commandsOf(x), "0 0 2 1,0 4 2 8,");
        Check.is("flaws stay", x.flaws(0), 6);
    }

    /** Seed 0 is a seed like others: the state does not go on where another drawing left it. */
    private static void makeBySeed0BehindOtherDrawings() {
        HistoryJudge x = new HistoryJudge();
        x.make(7L, 6, 4, 4);
        x.fails(5L, 9);
        Check.is("make", x.make(0L, 6, 0, 0), 6);
        Check.same("commands", commandsOf(x), "0 0 2 6,0 0 0 7,0 6 2 3,0 1 0 9,0 2 2 3,0 5 2 2,");
    }

    private static void flawsBelow0() {
        HistoryJudge x = twoAdds();
        x.flaws(9);
        Check.fails("flaws(-1)", ARGUMENT, () -> x.flaws(-1));
        Check.fails("lowest flaws", ARGUMENT, () -> x.flaws(LOWEST));
        Check.is("they stay", x.flaws(0), 9);
    }

    private static void flawsAbove15() {
        HistoryJudge x = twoAdds();
        x.flaws(6);
        Check.fails("flaws(16)", ARGUMENT, () -> x.flaws(16));
        Check.fails("highest flaws", ARGUMENT, () -> x.flaws(HIGHEST));
        Check.is("they stay", x.flaws(0), 6);
    }

    private static void flaws0To15() {
        HistoryJudge x = new HistoryJudge();
        int before = 0;
        for (int bits : new int[] {15, 0, 1, 2, 4, 8, 15, 15, 0, 0}) {
            Check.is("flaws(" + bits + ")", x.flaws(bits), before);
            before = bits;
        }
    }

    private static void flawsWorkFromTheNextRunOn() {
        HistoryJudge x = twoAdds();
        x.run(0);
        Check.is("three events", x.event(2, 3), 5);
        x.flaws(15);
        x.run(0);
        Check.is("four events", x.event(2, 3), 7);
        x.flaws(0);
        x.run(0);
        Check.is("three events", x.event(2, 3), 5);
    }

    private static void commandOfAnEmptyProgram() {
        HistoryJudge x = new HistoryJudge();
        for (int what = -1; what <= 4; what++) {
            int w = what;
            Check.fails("command(0, " + w + ")", INDEX, () -> x.command(0, w));
            Check.fails("command(-1, " + w + ")", INDEX, () -> x.command(-1, w));
        }
    }

    private static void commandBelowTheFirst() {
        HistoryJudge x = twoAdds();
        Check.fails("command(-1, 0)", INDEX, () -> x.command(-1, 0));
        Check.fails("lowest", INDEX, () -> x.command(LOWEST, 0));
        commandIs(x, 0, 0, OPEN, 0, 5);
    }

    private static void commandAboveTheLast() {
        HistoryJudge x = twoAdds();
        commandIs(x, 2, 2, ADD, 0, 1);
        Check.fails("command(3, 0)", INDEX, () -> x.command(3, 0));
        Check.fails("highest", INDEX, () -> x.command(HIGHEST, 0));
    }

    private static void commandAboveTheLastOfAll() {
        HistoryJudge x = full(ADD);
        commandIs(x, 13, 2, ADD, 0, 1);
        Check.fails("command(14, 0)", INDEX, () -> x.command(14, 0));
    }

    private static void commandWhatOutside() {
        HistoryJudge x = twoAdds();
        Check.fails("command(1, -1)", INDEX, () -> x.command(1, -1));
        Check.fails("command(1, 4)", INDEX, () -> x.command(1, 4));
        Check.fails("lowest", INDEX, () -> x.command(1, LOWEST));
        Check.fails("highest", INDEX, () -> x.command(1, HIGHEST));
    }

    private static void commandOfEachBranch() {
        HistoryJudge x = twoOfEach();
        int[] branches = {0, 0, 1, 1, 2, 2};
        for (int i = 0; i < 6; i++) {
            Check.is("branch of " + i, x.command(i, 0), branches[i]);
        }
    }

    private static void commandNeedsNoRun() {
        HistoryJudge x = twoAdds();
        String before = commandsOf(x);
        x.flaws(1);
        x.run(schedule("12121212"));
        Check.same("behind a run that was not explained", commandsOf(x), before);
    }
}
