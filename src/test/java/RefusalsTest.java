import java.util.ArrayList;
import java.util.List;
import java.util.function.Consumer;
import java.util.function.Supplier;

/**
 * A call that throws changes nothing, if nothing else is said: each call that is refused, in several
 * states, against an object that was never asked.
 */
public final class RefusalsTest extends Bench {
    private static final class Refused {
        final String name;
        final Class<? extends RuntimeException> due;
        final Consumer<HistoryJudge> call;

        Refused(String name, Class<? extends RuntimeException> due, Consumer<HistoryJudge> call) {
            this.name = name;
            this.due = due;
            this.call = call;
        }
    }

    private RefusalsTest() {
    }

    public static void main(String[] args) {
        Check.runAllOf(RefusalsTest.class);
    }

    private static HistoryJudge withoutRun() {
        HistoryJudge x = twoAdds();
        x.flaws(5);
        return x;
    }

    private static HistoryJudge explained() {
        HistoryJudge x = withoutRun();
        x.run(schedule("12222211"));
        return x;
    }

    private static HistoryJudge notExplained() {
        HistoryJudge x = withoutRun();
        x.run(schedule("12121212"));
        return x;
    }

    private static HistoryJudge shrunk() {
        HistoryJudge x = withoutRun();
        x.shrink(1L, 50);
        return x;
    }

    private static HistoryJudge addedTo() {
        HistoryJudge x = notExplained();
        x.add(2, WRITE, 0, 8 + 2);
        return x;
    }

    private static HistoryJudge made() {
        HistoryJudge x = notExplained();
        x.make(0L, 3, 2, 2);
        return x;
    }

    private static HistoryJudge cleared() {
        HistoryJudge x = notExplained();
        x.clear();
        return x;
    }

    /** What no state lets pass. */
    private static List<Refused> refusedEverywhere() {
        List<Refused> all = new ArrayList<>();
        for (int outside : new int[] {-1, LOWEST, HIGHEST}) {
            all.add(new Refused("add branch", ARGUMENT, x -> x.add(outside, OPEN, 1, 0)));
            all.add(new Refused("add kind", ARGUMENT, x -> x.add(1, outside, 1, 0)));
            all.add(new Refused("add cell", ARGUMENT, x -> x.add(1, OPEN, outside, 0)));
            all.add(new Refused("add argument", ARGUMENT, x -> x.add(1, OPEN, 1, outside)));
            all.add(new Refused("make p", ARGUMENT, x -> x.make(7L, outside, 2, 2)));
            all.add(new Refused("make a", ARGUMENT, x -> x.make(7L, 2, outside, 2)));
            all.add(new Refused("make b", ARGUMENT, x -> x.make(7L, 2, 2, outside)));
            all.add(new Refused("flaws", ARGUMENT, x -> x.flaws(outside)));
            all.add(new Refused("fails", ARGUMENT, x -> x.fails(1L, outside)));
            all.add(new Refused("shrink", ARGUMENT, x -> x.shrink(1L, outside)));
            all.add(new Refused("command i", INDEX, x -> x.command(outside, 0)));
            all.add(new Refused("command what", INDEX, x -> x.command(0, outside)));
            all.add(new Refused("event i", INDEX, x -> x.event(outside, 0)));
            all.add(new Refused("event what", INDEX, x -> x.event(0, outside)));
            all.add(new Refused("cell", INDEX, x -> x.cell(outside)));
            all.add(new Refused("count", INDEX, x -> x.count(outside)));
            all.add(new Refused("tally", INDEX, x -> x.tally(outside)));
        }
        all.add(new Refused("add branch 3", ARGUMENT, x -> x.add(3, OPEN, 1, 0)));
        all.add(new Refused("add kind 7", ARGUMENT, x -> x.add(1, 7, 1, 0)));
        all.add(new Refused("add cell 3", ARGUMENT, x -> x.add(1, OPEN, 3, 0)));
        all.add(new Refused("add argument 8 + 14", ARGUMENT, x -> x.add(1, OPEN, 1, 8 + 14)));
        all.add(new Refused("add not valid", UNSUPPORTED, x -> x.add(0, MOVE, 1, 0)));
        all.add(new Refused("make p 7", ARGUMENT, x -> x.make(7L, 7, 0, 0)));
        all.add(new Refused("make a 5", ARGUMENT, x -> x.make(7L, 0, 5, 0)));
        all.add(new Refused("make b 5", ARGUMENT, x -> x.make(7L, 0, 0, 5)));
        all.add(new Refused("flaws 16", ARGUMENT, x -> x.flaws(16)));
        all.add(new Refused("run -1", ARGUMENT, x -> x.run(-1)));
        all.add(new Refused("run lowest", ARGUMENT, x -> x.run(LOWEST)));
        all.add(new Refused("fails 0", ARGUMENT, x -> x.fails(1L, 0)));
        all.add(new Refused("fails 51", ARGUMENT, x -> x.fails(1L, 51)));
        all.add(new Refused("shrink 0", ARGUMENT, x -> x.shrink(1L, 0)));
        all.add(new Refused("shrink 51", ARGUMENT, x -> x.shrink(1L, 51)));
        all.add(new Refused("command 14", INDEX, x -> x.command(14, 0)));
        all.add(new Refused("event 14", INDEX, x -> x.event(14, 0)));
        all.add(new Refused("cell 3", INDEX, x -> x.cell(3)));
        all.add(new Refused("count 4", INDEX, x -> x.count(4)));
        all.add(new Refused("tally 7", INDEX, x -> x.tally(7)));
        return all;
    }

    private static void changesNothing(Supplier<HistoryJudge> state, Refused refused) {
        HistoryJudge x = state.get();
        HistoryJudge y = state.get();
        Check.fails(refused.name, refused.due, () -> {
            refused.call.accept(x);
            return 0;
        });
        Check.same("behind " + refused.name + " all that is told", allOf(x), allOf(y));
        Check.same("behind " + refused.name + " what follows", following(x), following(y));
    }

    /** Calls that would show a change that no question tells. */
    private static String following(HistoryJudge x) {
        StringBuilder text = new StringBuilder();
        text.append(Check.outcome(() -> x.shrink(3L, 5))).append(' ');
        text.append(Check.outcome(() -> x.add(0, OPEN, 1, 1))).append(' ');
        text.append(Check.outcome(() -> x.add(2, READ, 1, 8))).append(' ');
        text.append(Check.outcome(() -> x.run(schedule("2112122112")) ? 1 : 0)).append(' ');
        text.append(commandsOf(x)).append(latestRunOf(x));
        text.append(Check.outcome(() -> x.make(11L, 2, 2, 2))).append(' ');
        text.append(commandsOf(x)).append(countsOf(x));
        return text.toString();
    }

    private static void changesNothing(Supplier<HistoryJudge> state) {
        for (Refused refused : refusedEverywhere()) {
            changesNothing(state, refused);
        }
    }

    private static void ofANewObject() {
        changesNothing(HistoryJudge::new);
    }

    private static void withoutARun() {
        changesNothing(RefusalsTest::withoutRun);
    }

    private static void behindARunThatWasExplained() {
        changesNothing(RefusalsTest::explained);
    }

    private static void behindARunThatWasNot() {
        changesNothing(RefusalsTest::notExplained);
    }

    private static void behindShrink() {
        changesNothing(RefusalsTest::shrunk);
    }

    private static void behindAdd() {
        changesNothing(RefusalsTest::addedTo);
    }

    private static void behindMake() {
        changesNothing(RefusalsTest::made);
    }

    private static void behindClear() {
        changesNothing(RefusalsTest::cleared);
    }

    private static void questionsWithoutARun() {
        List<Refused> all = new ArrayList<>();
        all.add(new Refused("event", STATE, x -> x.event(2, 0)));
        all.add(new Refused("order", STATE, x -> x.order(0)));
        all.add(new Refused("order -1", STATE, x -> x.order(-1)));
        all.add(new Refused("cell", STATE, x -> x.cell(0)));
        for (Refused refused : all) {
            changesNothing(RefusalsTest::withoutRun, refused);
            changesNothing(RefusalsTest::addedTo, refused);
            changesNothing(RefusalsTest::made, refused);
        }
    }

    private static void questionsForAPlaceThatIsNotThere() {
        Refused first = new Refused("order 0", ELEMENT, x -> x.order(0));
        Refused below = new Refused("order -1", ELEMENT, x -> x.order(-1));
        Refused above = new Refused("order 2", ELEMENT, x -> x.order(2));
        changesNothing(RefusalsTest::notExplained, first);
        changesNothing(RefusalsTest::shrunk, first);
        changesNothing(RefusalsTest::explained, below);
        changesNothing(RefusalsTest::explained, above);
    }

    private static HistoryJudge fullWithARun() {
        HistoryJudge x = full(WRITE);
        x.run(schedule("1221"));
        return x;
    }

    private static void addToWhatIsFull() {
        for (int branch = 0; branch < 3; branch++) {
            int full = branch;
            Refused refused = new Refused("branch " + branch, STATE, x -> x.add(full, READ, 0, 0));
            changesNothing(() -> full(WRITE), refused);
            changesNothing(RefusalsTest::fullWithARun, refused);
        }
    }

    private static void addOfAnArgumentThatMayNotBe() {
        changesNothing(RefusalsTest::notExplained, new Refused("1 for 2", ARGUMENT, x -> x.add(1, READ, 0, 8 + 2)));
        changesNothing(RefusalsTest::notExplained, new Refused("2 for 1", ARGUMENT, x -> x.add(2, READ, 0, 8 + 1)));
        changesNothing(RefusalsTest::notExplained, new Refused("0 for 1", ARGUMENT, x -> x.add(0, READ, 0, 8 + 1)));
        changesNothing(RefusalsTest::notExplained, new Refused("no such", ARGUMENT, x -> x.add(2, READ, 0, 8 + 3)));
    }

    private static void addOfWhatIsNotValid() {
        for (int branch = 0; branch < 3; branch++) {
            int to = branch;
            changesNothing(RefusalsTest::notExplained, new Refused("OPEN", UNSUPPORTED, x -> x.add(to, OPEN, 0, 8 + 0)));
            changesNothing(RefusalsTest::notExplained, new Refused("READ", UNSUPPORTED, x -> x.add(to, READ, 1, 8 + 0)));
            changesNothing(RefusalsTest::notExplained, new Refused("CLOSE", UNSUPPORTED, x -> x.add(to, CLOSE, 0, 0)));
        }
    }

    /** Here something else is said: the runs count, and the last one is the latest. */
    private static void shrinkOfWhatDoesNotFail() {
        HistoryJudge x = twoAdds();
        x.flaws(14);
        x.run(HIGHEST);
        HistoryJudge y = twoAdds();
        y.flaws(14);
        y.run(HIGHEST);
        Check.fails("shrink", STATE, () -> x.shrink(9L, 17));
        Check.is("the same runs", y.fails(9L, 17), NONE);
        Check.same("nothing but the runs", allOf(x), allOf(y));
        Check.same("what follows", following(x), following(y));
    }
}
