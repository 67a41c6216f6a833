/** Promise 2, add: each edge that the document names, in a test of its own. */
public final class AddEdgesTest extends Bench {
    private AddEdgesTest() {
    }

    public static void main(String[] args) {
        Check.runAllOf(AddEdgesTest.class);
    }

    private static void refused(String what, Class<? extends RuntimeException> due, HistoryJudge x, int... command) {
        String before = allOf(x);
        Check.fails(what, due, () -> x.add(command[0], command[1], command[2], command[3]));
        Check.same("what is there behind it", allOf(x), before);
    }

    private static void branchBelowTheFirst() {
        refused("branch -1", ARGUMENT, twoOfEach(), -1, READ, 0, 0);
        refused("lowest branch", ARGUMENT, twoOfEach(), LOWEST, READ, 0, 0);
    }

    private static void branchAboveTheLast() {
        refused("branch 3", ARGUMENT, twoOfEach(), 3, READ, 0, 0);
        refused("highest branch", ARGUMENT, twoOfEach(), HIGHEST, READ, 0, 0);
    }

    private static void branchFirstToLast() {
        HistoryJudge x = twoOfEach();
        Check.is("branch 0", x.add(0, READ, 0, 5), 2);
        Check.is("branch 1", x.add(1, READ, 0, 6), 5);
        Check.is("branch 2", x.add(2, READ, 0, 7), 8);
        commandIs(x, 2, 0, READ, 0, 5);
        commandIs(x, 5, 1, READ, 0, 6);
        commandIs(x, 8, 2, READ, 0, 7);
    }

    private static void kindBelowTheFirst() {
        refused("kind -1", ARGUMENT, twoOfEach(), 1, -1, 0, 0);
        refused("lowest kind", ARGUMENT, twoOfEach(), 1, LOWEST, 0, 0);
    }

    private static void kindAboveTheLast() {
        refused("kind 7", ARGUMENT, twoOfEach(), 1, 7, 0, 0);
        refused("highest kind", ARGUMENT, twoOfEach(), 1, HIGHEST, 0, 0);
    }

    private static void kindFirstAndLast() {
        HistoryJudge x = new HistoryJudge();
        Check.is("kind 0", x.add(0, 0, 0, 0), 0);
        Check.is("kind 0", x.add(0, 0, 1, 0), 1);
        Check.is("kind 6", x.add(0, 6, 0, 0), 2);
        commandIs(x, 2, 0, MOVE, 0, 0);
    }

    private static void cellBelowTheFirst() {
        refused("cell -1", ARGUMENT, twoOfEach(), 2, READ, -1, 0);
        refused("lowest cell", ARGUMENT, twoOfEach(), 2, READ, LOWEST, 0);
    }

    private static void cellAboveTheLast() {
        refused("cell 3", ARGUMENT, twoOfEach(), 2, READ, 3, 0);
        refused("highest cell", ARGUMENT, twoOfEach(), 2, READ, HIGHEST, 0);
    }

    private static void cellFirstToLast() {
        HistoryJudge x = new HistoryJudge();
        for (int c = 0; c < 3; c++) {
            Check.is("cell " + c, x.add(0, OPEN, c, c), c);
            commandIs(x, c, 0, OPEN, c, c);
        }
    }

    private static void argumentBelow0() {
        for (int branch = 0; branch < 3; branch++) {
            refused("argument -1", ARGUMENT, twoOfEach(), branch, READ, 0, -1);
            refused("lowest argument", ARGUMENT, twoOfEach(), branch, READ, 0, LOWEST);
        }
    }

    private static void argument0And7() {
        HistoryJudge x = new HistoryJudge();
        x.add(0, OPEN, 0, 0);
        x.add(0, WRITE, 0, 7);
        commandIs(x, 0, 0, OPEN, 0, 0);
        commandIs(x, 1, 0, WRITE, 0, 7);
    }

    private static void argument8WithNoCommands() {
        for (int branch = 0; branch < 3; branch++) {
            refused("argument 8", ARGUMENT, new HistoryJudge(), branch, OPEN, 0, 8);
        }
    }

    /** No kind makes the argument free, not even one that does not use it. */
    private static void argumentOfAKindThatDoesNotUseIt() {
        for (int kind : new int[] {CLOSE, READ, MOVE}) {
            HistoryJudge x = new HistoryJudge();
            x.add(0, OPEN, 0, 0);
            x.add(0, OPEN, 1, 0);
            refused("argument -1 of kind " + kind, ARGUMENT, x, 0, kind, 0, -1);
            refused("argument 10 of kind " + kind, ARGUMENT, x, 0, kind, 0, 10);
            Check.is("argument 9 of kind " + kind, x.add(0, kind, 0, 9), 2);
        }
    }

    private static void prefixMayStandForThePrefix() {
        HistoryJudge x = twoOfEach();
        Check.is("first of the prefix", x.add(0, READ, 0, 8 + 0), 2);
        Check.is("last of the prefix", x.add(0, READ, 0, 8 + 2), 3);
        commandIs(x, 2, 0, READ, 0, 8 + 0);
        commandIs(x, 3, 0, READ, 0, 8 + 2);
    }

    private static void prefixMayNotStandForABranch() {
        refused("first of branch 1", ARGUMENT, twoOfEach(), 0, READ, 0, 8 + 2);
        refused("last of branch 1", ARGUMENT, twoOfEach(), 0, READ, 0, 8 + 3);
        refused("first of branch 2", ARGUMENT, twoOfEach(), 0, READ, 0, 8 + 4);
        refused("last of branch 2", ARGUMENT, twoOfEach(), 0, READ, 0, 8 + 5);
    }

    private static void branch1MayStandForThePrefixAndItself() {
        for (int i = 0; i < 4; i++) {
            HistoryJudge x = twoOfEach();
            Check.is("for " + i, x.add(1, READ, 0, 8 + i), 4);
            commandIs(x, 4, 1, READ, 0, 8 + i);
        }
    }

    private static void branch1MayNotStandForBranch2() {
        refused("first of branch 2", ARGUMENT, twoOfEach(), 1, READ, 0, 8 + 4);
        refused("last of branch 2", ARGUMENT, twoOfEach(), 1, READ, 0, 8 + 5);
    }

    private static void branch2MayStandForThePrefixAndItself() {
        for (int i : new int[] {0, 1, 4, 5}) {
            HistoryJudge x = twoOfEach();
            Check.is("for " + i, x.add(2, READ, 0, 8 + i), 6);
            commandIs(x, 6, 2, READ, 0, 8 + i);
        }
    }

    private static void branch2MayNotStandForBranch1() {
        refused("first of branch 1", ARGUMENT, twoOfEach(), 2, READ, 0, 8 + 2);
        refused("last of branch 1", ARGUMENT, twoOfEach(), 2, READ, 0, 8 + 3);
    }

    private static void argumentOfACommandThatIsNotThere() {
        for (int branch = 0; branch < 3; branch++) {
            refused("8 + how many there are", ARGUMENT, twoOfEach(), branch, READ, 0, 8 + 6);
            refused("8 + one more", ARGUMENT, twoOfEach(), branch, READ, 0, 8 + 7);
            refused("8 + 13", ARGUMENT, twoOfEach(), branch, READ, 0, 8 + 13);
            refused("8 + 14", ARGUMENT, twoOfEach(), branch, READ, 0, 8 + 14);
            refused("highest argument", ARGUMENT, twoOfEach(), branch, READ, 0, HIGHEST);
        }
    }

    private static void emptyBranchBesideAFilledOne() {
        HistoryJudge x = new HistoryJudge();
        x.add(0, OPEN, 0, 0);
        x.add(2, READ, 0, 0);
        refused("branch 1, empty, for the first of branch 2", ARGUMENT, x, 1, READ, 0, 8 + 1);
        HistoryJudge y = new HistoryJudge();
        y.add(0, OPEN, 0, 0);
        y.add(1, READ, 0, 0);
        refused("branch 2, empty, for the first of branch 1", ARGUMENT, y, 2, READ, 0, 8 + 1);
        refused("branch 2, empty, for itself", ARGUMENT, y, 2, READ, 0, 8 + 2);
    }

    private static void emptyPrefixBesideFilledBranches() {
        HistoryJudge x = new HistoryJudge();
        x.add(1, OPEN, 0, 0);
        x.add(2, OPEN, 1, 0);
        refused("prefix for branch 1", ARGUMENT, x, 0, OPEN, 2, 8 + 0);
        refused("prefix for branch 2", ARGUMENT, x, 0, OPEN, 2, 8 + 1);
        refused("branch 1 for branch 2", ARGUMENT, x, 1, READ, 0, 8 + 1);
        refused("branch 2 for branch 1", ARGUMENT, x, 2, READ, 1, 8 + 0);
        Check.is("branch 2 for itself", x.add(2, READ, 1, 8 + 1), 2);
        Check.is("branch 1 for itself", x.add(1, READ, 0, 8 + 0), 1);
        commandIs(x, 1, 1, READ, 0, 8 + 0);
        commandIs(x, 3, 2, READ, 1, 8 + 2);
    }

    private static void prefixIsFullAt6() {
        HistoryJudge x = new HistoryJudge();
        x.add(0, OPEN, 0, 0);
        for (int n = 1; n < 6; n++) {
            Check.is("command " + n, x.add(0, READ, 0, 0), n);
        }
        refused("a seventh", STATE, x, 0, READ, 0, 0);
        Check.is("branch 1 has room", x.add(1, READ, 0, 0), 6);
        Check.is("branch 2 has room", x.add(2, READ, 0, 0), 7);
    }

    private static void branch1IsFullAt4() {
        HistoryJudge x = new HistoryJudge();
        x.add(1, OPEN, 0, 0);
        for (int n = 1; n < 4; n++) {
            Check.is("command " + n, x.add(1, READ, 0, 0), n);
        }
        refused("a fifth", STATE, x, 1, READ, 0, 0);
        Check.is("branch 2 has room", x.add(2, OPEN, 1, 0), 4);
        Check.is("the prefix has room", x.add(0, OPEN, 2, 0), 0);
    }

    private static void branch2IsFullAt4() {
        HistoryJudge x = new HistoryJudge();
        x.add(2, OPEN, 0, 0);
        for (int n = 1; n < 4; n++) {
            Check.is("command " + n, x.add(2, READ, 0, 0), n);
        }
        refused("a fifth", STATE, x, 2, READ, 0, 0);
        Check.is("branch 1 has room", x.add(1, OPEN, 1, 0), 0);
        Check.is("the prefix has room", x.add(0, OPEN, 2, 0), 0);
    }

    private static void prefixHasRoomBesideFullBranches() {
        HistoryJudge x = new HistoryJudge();
        for (int n = 0; n < 4; n++) {
            x.add(1, n == 0 ? OPEN : READ, 0, 0);
            x.add(2, n == 0 ? OPEN : READ, 1, 0);
        }
        for (int n = 0; n < 6; n++) {
            Check.is("command " + n, x.add(0, n == 0 ? OPEN : READ, 2, 0), n);
        }
        Check.is("commands", x.count(0), 14);
        refused("a seventh", STATE, x, 0, READ, 2, 0);
    }

    private static void everythingIsFullAt14() {
        HistoryJudge x = full(READ);
        Check.is("commands", x.count(0), 14);
        refused("prefix", STATE, x, 0, READ, 0, 8 + 5);
        refused("branch 1", STATE, full(READ), 1, READ, 0, 8 + 9);
        refused("branch 2", STATE, full(READ), 2, READ, 0, 8 + 13);
    }

    private static void whatIsNamedFirstGoesFirst() {
        refused("argument, full, not valid", ARGUMENT, full(READ), 0, OPEN, 0, 8 + 6);
        refused("kind, full", ARGUMENT, full(READ), 1, 7, 0, 0);
        refused("full, not valid", STATE, full(READ), 2, OPEN, 0, 0);
        refused("argument, not valid", ARGUMENT, twoOfEach(), 1, OPEN, 0, 8 + 4);
    }

    private static void notValidOnAClosedCell() {
        for (int branch = 0; branch < 3; branch++) {
            for (int kind = CLOSE; kind <= MOVE; kind++) {
                HistoryJudge x = new HistoryJudge();
                x.add(0, OPEN, 1, 0);
                refused("kind " + kind + " of branch " + branch, UNSUPPORTED, x, branch, kind, 0, 0);
            }
        }
    }

    private static void notValidOnAnOpenCell() {
        for (int branch = 0; branch < 3; branch++) {
            refused("OPEN of branch " + branch, UNSUPPORTED, twoOfEach(), branch, OPEN, 0, 0);
        }
    }

    /** The source of cell 2 is cell 0. */
    private static void notValidWithAClosedSource() {
        for (int c = 0; c < 3; c++) {
            HistoryJudge x = new HistoryJudge();
            x.add(0, OPEN, c, 0);
            x.add(0, OPEN, (c + 2) % 3, 0);
            refused("MOVE to " + c, UNSUPPORTED, x, 0, MOVE, c, 0);
            Check.is("the other way", x.add(0, MOVE, (c + 2) % 3, 0), 2);
        }
    }

    private static void notValidInOneOrderAlone() {
        HistoryJudge x = new HistoryJudge();
        x.add(1, OPEN, 0, 0);
        refused("2 may read before 1 opens", UNSUPPORTED, x, 2, READ, 0, 0);
        HistoryJudge y = new HistoryJudge();
        y.add(2, OPEN, 0, 0);
        refused("1 may read before 2 opens", UNSUPPORTED, y, 1, READ, 0, 0);
        refused("1 may open what 2 opened", UNSUPPORTED, y, 1, OPEN, 0, 0);
        HistoryJudge z = twoOfEach();
        refused("1 may close before 2 reads", UNSUPPORTED, z, 1, CLOSE, 0, 0);
        refused("2 may close before 1 reads", UNSUPPORTED, z, 2, CLOSE, 0, 0);
    }

    /** Branch 1 closes cell 0 and opens it again, so only what stands between these finds it closed. */
    private static void notValidOnlyBetweenTwoCommands() {
        HistoryJudge x = new HistoryJudge();
        x.add(0, OPEN, 0, 0);
        x.add(0, OPEN, 1, 0);
        x.add(1, CLOSE, 0, 0);
        x.add(1, OPEN, 0, 0);
        refused("READ in branch 2", UNSUPPORTED, x, 2, READ, 0, 0);
        refused("OPEN in branch 2", UNSUPPORTED, x, 2, OPEN, 0, 0);
        refused("MOVE from it in branch 2", UNSUPPORTED, x, 2, MOVE, 2, 0);
        Check.is("READ of the other cell", x.add(2, READ, 1, 0), 4);
    }

    private static void notValidForLaterCommands() {
        HistoryJudge x = twoOfEach();
        refused("the prefix closes what is read", UNSUPPORTED, x, 0, CLOSE, 0, 0);
        HistoryJudge y = new HistoryJudge();
        y.add(2, OPEN, 0, 0);
        refused("the prefix opens what 2 opens", UNSUPPORTED, y, 0, OPEN, 0, 0);
        HistoryJudge z = new HistoryJudge();
        z.add(0, OPEN, 0, 0);
        z.add(0, OPEN, 1, 0);
        z.add(1, MOVE, 0, 0);
        refused("the prefix closes a source", UNSUPPORTED, z, 0, CLOSE, 1, 0);
        refused("2 closes a source", UNSUPPORTED, z, 2, CLOSE, 1, 0);
    }

    private static void argumentsGoAlongWithThePrefix() {
        HistoryJudge x = twoOfEach();
        x.add(1, WRITE, 0, 8 + 3);
        x.add(2, WRITE, 0, 8 + 5);
        x.add(2, WRITE, 0, 8 + 1);
        Check.is("a third of the prefix", x.add(0, READ, 0, 8 + 1), 2);
        commandIs(x, 2, 0, READ, 0, 8 + 1);
        commandIs(x, 5, 1, WRITE, 0, 8 + 4);
        commandIs(x, 8, 2, WRITE, 0, 8 + 6);
        commandIs(x, 9, 2, WRITE, 0, 8 + 1);
    }

    private static void argumentsGoAlongWithBranch1() {
        HistoryJudge x = twoOfEach();
        x.add(1, WRITE, 0, 8 + 2);
        x.add(2, WRITE, 0, 8 + 5);
        x.add(2, WRITE, 0, 8 + 0);
        Check.is("a fourth of branch 1", x.add(1, READ, 0, 8 + 4), 5);
        commandIs(x, 4, 1, WRITE, 0, 8 + 2);
        commandIs(x, 5, 1, READ, 0, 8 + 4);
        commandIs(x, 8, 2, WRITE, 0, 8 + 6);
        commandIs(x, 9, 2, WRITE, 0, 8 + 0);
    }

    private static void argumentsStayWithBranch2() {
        HistoryJudge x = twoOfEach();
        x.add(1, WRITE, 0, 8 + 3);
        x.add(2, WRITE, 0, 8 + 5);
        Check.is("a fourth of branch 2", x.add(2, READ, 0, 8 + 7), 8);
        commandIs(x, 4, 1, WRITE, 0, 8 + 3);
        commandIs(x, 7, 2, WRITE, 0, 8 + 5);
        commandIs(x, 8, 2, READ, 0, 8 + 7);
    }

    /** 7 is a number and 8 is the first that is none: neither moves when commands move. */
    private static void numbersStay() {
        HistoryJudge x = new HistoryJudge();
        x.add(2, OPEN, 0, 7);
        x.add(2, WRITE, 0, 7);
        x.add(1, OPEN, 1, 7);
        x.add(0, OPEN, 2, 7);
        for (int i = 0; i < 4; i++) {
            Check.is("argument of " + i, x.command(i, 3), 7);
        }
    }

    private static void argumentsStandForTheSameAnswersAfterwards() {
        HistoryJudge x = new HistoryJudge();
        x.add(0, OPEN, 0, 3);
        x.add(2, SWAP, 0, 6);
        x.add(2, WRITE, 0, 8 + 1);
        x.add(1, OPEN, 1, 5);
        x.add(1, CLOSE, 1, 0);
        x.add(1, OPEN, 1, 8 + 2);
        x.add(0, OPEN, 2, 8 + 0);
        x.run(0);
        Check.is("OPEN takes CLOSE's answer", x.event(4, 1), 5);
        Check.is("WRITE takes SWAP's answer", x.event(6, 1), 3);
        Check.is("cell 0", x.cell(0), 8 + 3);
        Check.is("cell 1", x.cell(1), 8 + 5);
        Check.is("cell 2", x.cell(2), 8 + 0);
    }
}
