import java.util.Random;

/** Long runs of drawn calls, each answer against that of the plainest form of the document. */
public final class ReferenceTest {
    private static final int OBJECTS = 1500;

    /** What an object answers behind so many calls is free. */
    private static final int CALLS = 512;

    private final HistoryJudge x = new HistoryJudge();
    private final Reference y = new Reference();
    private final Random random;
    private final int object;
    private int call;

    private ReferenceTest(int object) {
        this.object = object;
        this.random = new Random(object);
    }

    public static void main(String[] args) {
        for (int object = 0; object < OBJECTS; object++) {
            new ReferenceTest(object).compareCalls();
        }
        Check.end();
    }

    private void compareCalls() {
        if (object % 2 == 0) {
            same("flaws 15", () -> x.flaws(15), () -> y.flaws(15));
        }
        while (call < CALLS) {
            compareOne();
        }
    }

    private int about(int bound) {
        return random.nextInt(40) == 0 ? random.nextInt(3) == 0 ? -1 : bound : random.nextInt(bound);
    }

    private void compareOne() {
        switch (random.nextInt(object % 2 == 0 ? 14 : 24)) {
            case 0: compareMake(); break;
            case 1: compareFlaws(); break;
            case 2: case 3: compareRun(); break;
            case 4: compareFails(); break;
            case 5: compareShrink(); break;
            case 6: case 7: compareCommand(); break;
            case 8: compareEvent(); break;
            case 9: compareOrder(); break;
            case 10: compareCell(); break;
            case 11: compareCount(); break;
            case 12: compareTally(); break;
            case 13: compareClear(); break;
            default: compareAdd(); break;
        }
    }

    private void compareMake() {
        long seed = random.nextLong() >> random.nextInt(64);
        int p = about(7);
        int a = about(5);
        int b = about(5);
        same("make " + seed + " " + p + " " + a + " " + b, () -> x.make(seed, p, a, b), () -> y.make(seed, p, a, b));
    }

    private void compareFlaws() {
        int bits = random.nextInt(3) == 0 ? 15 : about(16);
        same("flaws " + bits, () -> x.flaws(bits), () -> y.flaws(bits));
    }

    private void compareRun() {
        int schedule = random.nextInt(30) == 0 ? -1 - random.nextInt(9) : random.nextInt() & Integer.MAX_VALUE;
        same("run " + schedule, () -> x.run(schedule) ? 1 : 0, () -> y.run(schedule) ? 1 : 0);
        compareRows();
    }

    private void compareFails() {
        long seed = random.nextLong();
        int most = about(51);
        same("fails " + seed + " " + most, () -> x.fails(seed, most), () -> y.fails(seed, most));
        compareRows();
    }

    private void compareShrink() {
        long seed = random.nextLong();
        int most = about(51);
        same("shrink " + seed + " " + most, () -> x.shrink(seed, most), () -> y.shrink(seed, most));
        compareRows();
    }

    private void compareRows() {
        if (random.nextInt(3) > 0) {
            return;
        }
        int commands = y.count(0);
        for (int i = 0; i <= commands; i++) {
            int at = i;
            for (int w = 0; w < 4; w++) {
                int what = w;
                same("command " + at + " " + what, () -> x.command(at, what), () -> y.command(at, what));
                same("event " + at + " " + what, () -> x.event(at, what), () -> y.event(at, what));
            }
            if (i < 9) {
                same("order " + at, () -> x.order(at), () -> y.order(at));
            }
        }
        for (int i = 0; i < 7; i++) {
            int at = i;
            same("cell " + at, () -> x.cell(at), () -> y.cell(at));
            same("count " + at, () -> x.count(at), () -> y.count(at));
            same("tally " + at, () -> x.tally(at), () -> y.tally(at));
        }
    }

    private void compareCommand() {
        int i = about(14);
        int what = about(4);
        same("command " + i + " " + what, () -> x.command(i, what), () -> y.command(i, what));
    }

    private void compareEvent() {
        int i = about(14);
        int what = about(4);
        same("event " + i + " " + what, () -> x.event(i, what), () -> y.event(i, what));
    }

    private void compareOrder() {
        int k = about(8);
        same("order " + k, () -> x.order(k), () -> y.order(k));
    }

    private void compareCell() {
        int c = about(3);
        same("cell " + c, () -> x.cell(c), () -> y.cell(c));
    }

    private void compareCount() {
        int what = about(4);
        same("count " + what, () -> x.count(what), () -> y.count(what));
    }

    private void compareTally() {
        int kind = about(7);
        same("tally " + kind, () -> x.tally(kind), () -> y.tally(kind));
    }

    private void compareClear() {
        if (random.nextInt(4) == 0) {
            same("clear", x::clear, y::clear);
        }
    }

    private void compareAdd() {
        int branch = about(3);
        int kind = about(7);
        int cell = about(3);
        int argument = random.nextBoolean() ? about(8) : 8 + about(15);
        same("add " + branch + " " + kind + " " + cell + " " + argument,
                () -> x.add(branch, kind, cell, argument), () -> y.add(branch, kind, cell, argument));
        if (random.nextInt(4) == 0) {
            compareRows();
        }
    }

    private void same(String what, Check.Call got, Check.Call due) {
        if (call == CALLS) {
            return;
        }
        call++;
        String answer = Check.outcome(got);
        String wanted = Check.outcome(due);
        if (!answer.equals(wanted)) {
            Check.tell("object " + object + ", call " + call + ": " + what + " answered " + answer + ", due is " + wanted);
        }
    }
}
