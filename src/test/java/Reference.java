import java.util.ArrayList;
import java.util.IdentityHashMap;
import java.util.List;
import java.util.Map;
import java.util.NoSuchElementException;

/**
 * The document once more, in the plainest form: commands are objects that point at one another, and
 * every order is written out and looked at whole.
 */
final class Reference {
    private static final class Command {
        int kind;
        int cell;
        int number;
        Command meant;
        int value;
        int answer;
        int call;
        int back;
    }

    private static final class Cells {
        final boolean[] open = new boolean[3];
        final int[] held = new int[3];

        boolean meets(Command x) {
            boolean met = x.kind == 0 ? !open[x.cell] : open[x.cell];
            return x.kind == 6 ? met && open[(x.cell + 1) % 3] : met;
        }

        int obey(int kind, int c, int v) {
            int before = held[c];
            switch (kind) {
                case 0: open[c] = true; held[c] = v; return 0;
                case 1: open[c] = false; held[c] = 0; return before;
                case 2: return before;
                case 3: held[c] = v; return 0;
                case 4: held[c] = (before + v) % 8; return held[c];
                case 5: held[c] = v; return before;
                default: held[c] = held[(c + 1) % 3]; return before;
            }
        }
    }

    private static final int[] ROOM = {6, 4, 4};

    private List<List<Command>> program = noCommands();
    private int flaws = 0;
    private int runs = 0;
    private int unexplained = 0;
    private int taken = 0;
    private int lastSchedule = 0;
    private final int[] tallies = new int[7];
    private Cells system = null;
    private List<Command> witness = null;
    private List<List<Command>> ran = null;

    private static List<List<Command>> noCommands() {
        List<List<Command>> all = new ArrayList<>();
        for (int b = 0; b < 3; b++) {
            all.add(new ArrayList<>());
        }
        return all;
    }

    private static List<Command> flat(List<List<Command>> p) {
        List<Command> all = new ArrayList<>();
        p.forEach(all::addAll);
        return all;
    }

    private static List<List<Command>> copy(List<List<Command>> p) {
        Map<Command, Command> twins = new IdentityHashMap<>();
        List<List<Command>> twin = noCommands();
        for (int b = 0; b < 3; b++) {
            for (Command x : p.get(b)) {
                Command y = new Command();
                y.kind = x.kind;
                y.cell = x.cell;
                y.number = x.number;
                y.meant = twins.get(x.meant);
                twins.put(x, y);
                twin.get(b).add(y);
            }
        }
        return twin;
    }

    /** All orders of two rows, those that take the first row's command earlier first. */
    private static List<List<Command>> orders(List<Command> one, List<Command> two) {
        List<List<Command>> all = new ArrayList<>();
        int n = one.size() + two.size();
        for (int bits = 0; bits < 1 << n; bits++) {
            if (Integer.bitCount(bits) != two.size()) {
                continue;
            }
            List<Command> order = new ArrayList<>();
            int i = 0;
            int j = 0;
            for (int place = n - 1; place >= 0; place--) {
                order.add((bits >> place & 1) == 0 ? one.get(i++) : two.get(j++));
            }
            all.add(order);
        }
        return all;
    }

    private static boolean valid(List<List<Command>> p) {
        for (List<Command> order : orders(p.get(1), p.get(2))) {
            Cells cells = new Cells();
            List<Command> whole = new ArrayList<>(p.get(0));
            whole.addAll(order);
            for (Command x : whole) {
                if (!cells.meets(x)) {
                    return false;
                }
                cells.obey(x.kind, x.cell, 0);
            }
        }
        return true;
    }

    private List<Runnable> events(Command x, Cells cells, int[] moment) {
        List<Runnable> row = new ArrayList<>();
        int[] note = new int[1];
        row.add(() -> {
            x.call = moment[0];
            x.value = x.meant == null ? x.number : x.meant.answer;
        });
        if (x.kind == 4 && (flaws & 1) != 0) {
            row.add(() -> note[0] = cells.held[x.cell]);
            row.add(() -> {
                x.answer = (note[0] + x.value) % 8;
                cells.held[x.cell] = x.answer;
            });
        } else if (x.kind == 5 && (flaws & 2) != 0) {
            row.add(() -> note[0] = cells.held[x.cell]);
            row.add(() -> {
                x.answer = note[0];
                cells.held[x.cell] = x.value;
            });
        } else if (x.kind == 6 && (flaws & 4) != 0) {
            row.add(() -> note[0] = cells.held[(x.cell + 1) % 3]);
            row.add(() -> {
                x.answer = cells.held[x.cell];
                cells.held[x.cell] = note[0];
            });
        } else if (x.kind == 3 && (flaws & 8) != 0) {
            row.add(() -> x.answer = 0);
        } else {
            row.add(() -> x.answer = cells.obey(x.kind, x.cell, x.value));
        }
        row.add(() -> x.back = moment[0]);
        if (x.kind == 3 && (flaws & 8) != 0) {
            row.add(() -> cells.held[x.cell] = x.value);
        }
        return row;
    }

    private boolean once(List<List<Command>> p, int schedule) {
        Cells cells = new Cells();
        int[] moment = {-1};
        List<List<Runnable>> rows = new ArrayList<>();
        for (int b = 0; b < 3; b++) {
            List<Runnable> row = new ArrayList<>();
            for (Command x : p.get(b)) {
                tallies[x.kind]++;
                row.addAll(events(x, cells, moment));
            }
            rows.add(row);
        }
        rows.get(0).forEach(Runnable::run);
        while (!rows.get(1).isEmpty() || !rows.get(2).isEmpty()) {
            moment[0]++;
            int b = rows.get(2).isEmpty() ? 1
                    : rows.get(1).isEmpty() ? 2 : 1 + (schedule >> moment[0] % 31 & 1);
            rows.get(b).remove(0).run();
        }
        lastSchedule = schedule;
        system = cells;
        ran = p;
        witness = explanation(p);
        runs++;
        if (witness == null) {
            unexplained++;
        }
        return witness != null;
    }

    private static List<Command> explanation(List<List<Command>> p) {
        for (List<Command> order : orders(p.get(1), p.get(2))) {
            if (keepsTimes(order) && explains(p.get(0), order)) {
                return order;
            }
        }
        return null;
    }

    private static boolean keepsTimes(List<Command> order) {
        for (int i = 0; i < order.size(); i++) {
            for (int j = i + 1; j < order.size(); j++) {
                if (order.get(j).back < order.get(i).call) {
                    return false;
                }
            }
        }
        return true;
    }

    private static boolean explains(List<Command> prefix, List<Command> order) {
        Cells cells = new Cells();
        List<Command> whole = new ArrayList<>(prefix);
        whole.addAll(order);
        for (Command x : whole) {
            if (cells.obey(x.kind, x.cell, x.value) != x.answer) {
                return false;
            }
        }
        return true;
    }

    private int draw(long[] state, int bound) {
        state[0] = state[0] * 6364136223846793005L + 1442695040888963407L;
        return (int) ((state[0] >>> 33) % bound);
    }

    private int firstFailure(List<List<Command>> p, long seed, int most) {
        long[] state = {seed};
        for (int n = 0; n < most; n++) {
            if (!once(p, draw(state, 2147483647))) {
                return n;
            }
        }
        return -1;
    }

    private static List<List<List<Command>>> candidates(List<List<Command>> p) {
        List<List<List<Command>>> all = new ArrayList<>();
        int n = flat(p).size();
        for (int i = n - 1; i >= 0; i--) {
            List<List<Command>> q = copy(p);
            Command gone = flat(q).get(i);
            if (flat(q).stream().noneMatch(x -> x.meant == gone)) {
                q.forEach(branch -> branch.remove(gone));
                all.add(q);
            }
        }
        for (int b = 1; b < 3; b++) {
            if (!p.get(b).isEmpty() && p.get(0).size() < 6) {
                List<List<Command>> q = copy(p);
                q.get(0).add(q.get(b).remove(0));
                all.add(q);
            }
        }
        for (int i = 0; i < n; i++) {
            Command x = flat(p).get(i);
            for (int by = 0; by < 2; by++) {
                if (x.meant == null && x.number > by) {
                    List<List<Command>> q = copy(p);
                    flat(q).get(i).number = by == 0 ? 0 : x.number / 2;
                    all.add(q);
                }
            }
        }
        return all;
    }

    int add(int branch, int kind, int cell, int argument) {
        if (branch < 0 || branch > 2 || kind < 0 || kind > 6 || cell < 0 || cell > 2 || argument < 0) {
            throw new IllegalArgumentException();
        }
        Command meant = null;
        if (argument > 7) {
            List<Command> all = flat(program);
            if (argument - 8 >= all.size()) {
                throw new IllegalArgumentException();
            }
            meant = all.get(argument - 8);
            if (!program.get(0).contains(meant) && !program.get(branch).contains(meant)) {
                throw new IllegalArgumentException();
            }
        }
        if (program.get(branch).size() == ROOM[branch]) {
            throw new IllegalStateException();
        }
        Command x = new Command();
        x.kind = kind;
        x.cell = cell;
        x.number = meant == null ? argument : 0;
        x.meant = meant;
        program.get(branch).add(x);
        if (!valid(program)) {
            program.get(branch).remove(x);
            throw new UnsupportedOperationException();
        }
        ran = null;
        return flat(program).indexOf(x);
    }

    int clear() {
        int n = flat(program).size();
        program = noCommands();
        ran = null;
        return n;
    }

    int make(long seed, int p, int a, int b) {
        if (p < 0 || p > 6 || a < 0 || a > 4 || b < 0 || b > 4) {
            throw new IllegalArgumentException();
        }
        clear();
        long[] state = {seed};
        int[] wanted = {p, a, b};
        for (int branch = 0; branch < 3; branch++) {
            for (int n = 0; n < wanted[branch]; n++) {
                for (int t = 0; t < 20; t++) {
                    if (tryDrawn(state, branch)) {
                        break;
                    }
                }
            }
        }
        return flat(program).size();
    }

    private boolean tryDrawn(long[] state, int branch) {
        Command x = new Command();
        x.kind = draw(state, 7);
        x.cell = draw(state, 3);
        List<Command> known = new ArrayList<>(program.get(0));
        if (branch > 0) {
            known.addAll(program.get(branch));
        }
        if (draw(state, 4) == 0 && !known.isEmpty()) {
            x.meant = known.get(draw(state, known.size()));
        } else {
            x.number = draw(state, 8);
        }
        program.get(branch).add(x);
        if (valid(program)) {
            return true;
        }
        program.get(branch).remove(x);
        return false;
    }

    int flaws(int bits) {
        if (bits < 0 || bits > 15) {
            throw new IllegalArgumentException();
        }
        int before = flaws;
        flaws = bits;
        return before;
    }

    boolean run(int schedule) {
        if (schedule < 0) {
            throw new IllegalArgumentException();
        }
        return once(program, schedule);
    }

    int fails(long seed, int most) {
        if (most < 1 || most > 50) {
            throw new IllegalArgumentException();
        }
        return firstFailure(program, seed, most);
    }

    int shrink(long seed, int most) {
        if (fails(seed, most) < 0) {
            throw new IllegalStateException();
        }
        int failing = lastSchedule;
        int steps = 0;
        boolean again = true;
        while (again) {
            again = false;
            for (List<List<Command>> q : candidates(program)) {
                if (valid(q) && firstFailure(q, seed, most) >= 0) {
                    failing = lastSchedule;
                    program = q;
                    steps++;
                    again = true;
                    break;
                }
            }
        }
        taken += steps;
        once(program, failing);
        return steps;
    }

    int command(int i, int what) {
        List<Command> all = flat(program);
        if (i < 0 || i >= all.size() || what < 0 || what > 3) {
            throw new IndexOutOfBoundsException();
        }
        Command x = all.get(i);
        int branch = program.get(0).contains(x) ? 0 : program.get(1).contains(x) ? 1 : 2;
        int argument = x.meant == null ? x.number : 8 + all.indexOf(x.meant);
        return new int[] {branch, x.kind, x.cell, argument}[what];
    }

    int event(int i, int what) {
        List<Command> all = flat(program);
        if (i < 0 || i >= all.size() || what < 0 || what > 3) {
            throw new IndexOutOfBoundsException();
        }
        if (ran != program) {
            throw new IllegalStateException();
        }
        Command x = all.get(i);
        return new int[] {x.answer, x.value, x.call, x.back}[what];
    }

    int order(int k) {
        if (ran != program) {
            throw new IllegalStateException();
        }
        if (witness == null || k < 0 || k >= witness.size()) {
            throw new NoSuchElementException();
        }
        return flat(program).indexOf(witness.get(k));
    }

    int cell(int c) {
        if (c < 0 || c > 2) {
            throw new IndexOutOfBoundsException();
        }
        if (ran != program) {
            throw new IllegalStateException();
        }
        return system.held[c] + (system.open[c] ? 8 : 0);
    }

    int count(int what) {
        if (what < 0 || what > 3) {
            throw new IndexOutOfBoundsException();
        }
        return new int[] {flat(program).size(), runs, unexplained, taken}[what];
    }

    int tally(int kind) {
        if (kind < 0 || kind > 6) {
            throw new IndexOutOfBoundsException();
        }
        return tallies[kind];
    }
}
