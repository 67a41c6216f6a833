import java.util.NoSuchElementException;

/**
 * Tests a small system of cells that may have flaws: runs programs of a prefix and two branches by
 * schedules, judges each run by whether an order of its commands explains it, and shrinks a program
 * that fails.
 */
public final class HistoryJudge {
    public static final int NONE = -1;

    private static final int CELLS = 3;
    private static final int NUMBERS = 8;
    private static final int BRANCHES = 3;
    private static final int PREFIX_ROOM = 6;
    private static final int BRANCH_ROOM = 4;
    private static final int COMMANDS = PREFIX_ROOM + 2 * BRANCH_ROOM;

    private static final int KINDS = 7;
    private static final int OPEN = 0;
    private static final int CLOSE = 1;
    private static final int READ = 2;
    private static final int WRITE = 3;
    private static final int ADD = 4;
    private static final int SWAP = 5;
    private static final int MOVE = 6;

    private static final int SPLIT_ADD = 1;
    private static final int SPLIT_SWAP = 2;
    private static final int SPLIT_MOVE = 4;
    private static final int LATE_WRITE = 8;
    private static final int ALL_FLAWS = 15;

    private static final int SCHEDULE_BITS = 31;
    private static final int SCHEDULES = 2147483647;
    private static final int MOST_RUNS = 50;
    private static final int TRIES = 20;

    /** A candidate without each command, one for each branch, two for each argument. */
    private static final int CANDIDATES = COMMANDS + 2 + 2 * COMMANDS;

    /** Each candidate taken has fewer commands, fewer in branches or a lower number: 64 at most. */
    private static final int MOST_TAKEN = 1000;

    private final Program program;
    private final Program trial;
    private final Tester tester;
    private final Draws draws;
    private int taken;
    private boolean runIsCurrent;

    public HistoryJudge() {
        program = new Program();
        trial = new Program();
        tester = new Tester();
        draws = new Draws();
        taken = 0;
        runIsCurrent = false;
    }

    public int add(int branch, int kind, int cell, int argument)
            throws IllegalArgumentException, IllegalStateException, UnsupportedOperationException {
        if (!isBelow(branch, BRANCHES) || !isBelow(kind, KINDS) || !isBelow(cell, CELLS)) {
            throw new IllegalArgumentException("no such branch, kind or cell");
        }
        if (!program.mayTake(branch, argument)) {
            throw new IllegalArgumentException("no such argument");
        }
        if (!program.hasRoom(branch)) {
            throw new IllegalStateException("the branch is full");
        }
        int number = program.end(branch);
        if (!appendIfValid(branch, kind, cell, argument)) {
            throw new UnsupportedOperationException("the program would not be valid");
        }
        runIsCurrent = false;
        return number;
    }

    public int clear() {
        int before = program.size();
        program.empty();
        runIsCurrent = false;
        return before;
    }

    public int make(long seed, int p, int a, int b) throws IllegalArgumentException {
        if (!isBelow(p, PREFIX_ROOM + 1) || !isBelow(a, BRANCH_ROOM + 1) || !isBelow(b, BRANCH_ROOM + 1)) {
            throw new IllegalArgumentException("too many or too few commands");
        }
        draws.restart(seed);
        program.empty();
        drawBranch(0, p);
        drawBranch(1, a);
        drawBranch(2, b);
        runIsCurrent = false;
        return program.size();
    }

    public int flaws(int bits) throws IllegalArgumentException {
        if (!isBelow(bits, ALL_FLAWS + 1)) {
            throw new IllegalArgumentException("no such flaws");
        }
        int before = tester.flawBits;
        tester.flawBits = bits;
        return before;
    }

    public boolean run(int schedule) throws IllegalArgumentException {
        if (schedule < 0) {
            throw new IllegalArgumentException("a schedule is not below 0");
        }
        runIsCurrent = true;
        return tester.test(program, schedule);
    }

    public int fails(long seed, int runs) throws IllegalArgumentException {
        if (runs < 1 || runs > MOST_RUNS) {
            throw new IllegalArgumentException("too many or too few runs");
        }
        runIsCurrent = true;
        return tester.firstFailure(program, seed, runs);
    }

    public int shrink(long seed, int runs) throws IllegalArgumentException, IllegalStateException {
        if (runs < 1 || runs > MOST_RUNS) {
            throw new IllegalArgumentException("too many or too few runs");
        }
        runIsCurrent = true;
        if (tester.firstFailure(program, seed, runs) == NONE) {
            throw new IllegalStateException("the program does not fail");
        }
        int failing = tester.schedule;
        int steps = 0;
        int k = 0;
        while (k < CANDIDATES && steps < MOST_TAKEN) {
            if (prepareCandidate(k) && trial.isValid() && tester.firstFailure(trial, seed, runs) != NONE) {
                program.copyFrom(trial);
                failing = tester.schedule;
                steps++;
                k = 0;
            } else {
                k++;
            }
        }
        taken += steps;
        tester.test(program, failing);
        return steps;
    }

    public int command(int i, int what) throws IndexOutOfBoundsException {
        if (!isBelow(i, program.size()) || !isBelow(what, 4)) {
            throw new IndexOutOfBoundsException("no such command or part of it");
        }
        switch (what) {
            case 0:
                return program.branchOf(i);
            case 1:
                return program.kinds[i];
            case 2:
                return program.cells[i];
            default:
                return program.arguments[i];
        }
    }

    public int event(int i, int what) throws IndexOutOfBoundsException, IllegalStateException {
        if (!isBelow(i, program.size()) || !isBelow(what, 4)) {
            throw new IndexOutOfBoundsException("no such command or event");
        }
        if (!runIsCurrent) {
            throw new IllegalStateException("no run of this program");
        }
        Machine machine = tester.machine;
        switch (what) {
            case 0:
                return machine.answers[i];
            case 1:
                return machine.numbers[i];
            case 2:
                return machine.calls[i];
            default:
                return machine.returns[i];
        }
    }

    public int order(int k) throws IllegalStateException, NoSuchElementException {
        if (!runIsCurrent) {
            throw new IllegalStateException("no run of this program");
        }
        if (!tester.explained || !isBelow(k, program.size() - program.sizes[0])) {
            throw new NoSuchElementException("no such place");
        }
        return tester.judge.witness[k];
    }

    public int cell(int c) throws IndexOutOfBoundsException, IllegalStateException {
        if (!isBelow(c, CELLS)) {
            throw new IndexOutOfBoundsException("no such cell");
        }
        if (!runIsCurrent) {
            throw new IllegalStateException("no run of this program");
        }
        return Model.content(tester.machine.cells, c);
    }

    public int count(int what) throws IndexOutOfBoundsException {
        switch (what) {
            case 0:
                return program.size();
            case 1:
                return tester.runs;
            case 2:
                return tester.unexplained;
            case 3:
                return taken;
            default:
                throw new IndexOutOfBoundsException("no such count");
        }
    }

    public int tally(int kind) throws IndexOutOfBoundsException {
        if (!isBelow(kind, KINDS)) {
            throw new IndexOutOfBoundsException("no such kind");
        }
        return tester.tallies[kind];
    }

    private static boolean isBelow(int number, int bound) {
        return number >= 0 && number < bound;
    }

    private boolean appendIfValid(int branch, int kind, int cell, int argument) {
        trial.copyFrom(program);
        trial.append(branch, kind, cell, argument);
        if (!trial.isValid()) {
            return false;
        }
        program.copyFrom(trial);
        return true;
    }

    private void drawBranch(int branch, int wanted) {
        for (int n = 0; n < wanted; n++) {
            boolean found = false;
            for (int t = 0; t < TRIES && !found; t++) {
                found = drawCommand(branch);
            }
        }
    }

    private boolean drawCommand(int branch) {
        int kind = draws.below(KINDS);
        int cell = draws.below(CELLS);
        boolean wantsAnswer = draws.below(4) == 0;
        int known = program.known(branch);
        int argument;
        if (wantsAnswer && known > 0) {
            argument = NUMBERS + program.knownAt(branch, draws.below(known));
        } else {
            argument = draws.below(NUMBERS);
        }
        return appendIfValid(branch, kind, cell, argument);
    }

    /** Makes candidate k of the program in the trial; false when there is none of that number. */
    private boolean prepareCandidate(int k) {
        trial.copyFrom(program);
        if (k < COMMANDS) {
            return trial.remove(program.size() - 1 - k);
        }
        if (k < COMMANDS + 2) {
            return trial.promote(k - COMMANDS + 1);
        }
        int n = k - COMMANDS - 2;
        return trial.lower(n / 2, n % 2 == 1);
    }

    /** What each kind needs, does and answers, over cells held in one number, four bits each. */
    private static final class Model {
        private static final int CLOSED_CELLS = 0;
        private static final int OPEN_BIT = 8;

        static int content(int cells, int c) {
            return (cells >> (4 * c)) & 15;
        }

        static int held(int cells, int c) {
            return (cells >> (4 * c)) & 7;
        }

        static boolean isOpen(int cells, int c) {
            return ((cells >> (4 * c)) & OPEN_BIT) != 0;
        }

        static int source(int c) {
            return (c + 1) % CELLS;
        }

        static boolean allows(int cells, int kind, int c) {
            switch (kind) {
                case OPEN:
                    return !isOpen(cells, c);
                case MOVE:
                    return isOpen(cells, c) && isOpen(cells, source(c));
                default:
                    return isOpen(cells, c);
            }
        }

        static int answer(int cells, int kind, int c, int number) {
            switch (kind) {
                case OPEN:
                case WRITE:
                    return 0;
                case ADD:
                    return (held(cells, c) + number) % NUMBERS;
                default:
                    return held(cells, c);
            }
        }

        static int after(int cells, int kind, int c, int number) {
            int content = content(cells, c);
            int open = content & OPEN_BIT;
            int next;
            switch (kind) {
                case OPEN:
                    next = OPEN_BIT + number;
                    break;
                case CLOSE:
                    next = 0;
                    break;
                case READ:
                    next = content;
                    break;
                case ADD:
                    next = open + (held(cells, c) + number) % NUMBERS;
                    break;
                case MOVE:
                    next = open + held(cells, source(c));
                    break;
                default:
                    next = open + number;
                    break;
            }
            return (cells & ~(15 << (4 * c))) | (next << (4 * c));
        }
    }

    /** Commands by their numbers: the prefix, then branch 1, then branch 2. */
    private static final class Program {
        final int[] sizes = new int[BRANCHES];
        final int[] kinds = new int[COMMANDS];
        final int[] cells = new int[COMMANDS];
        final int[] arguments = new int[COMMANDS];

        int size() {
            return sizes[0] + sizes[1] + sizes[2];
        }

        int start(int branch) {
            switch (branch) {
                case 0:
                    return 0;
                case 1:
                    return sizes[0];
                default:
                    return sizes[0] + sizes[1];
            }
        }

        int end(int branch) {
            return start(branch) + sizes[branch];
        }

        int branchOf(int i) {
            if (i < start(1)) {
                return 0;
            }
            return i < start(2) ? 1 : 2;
        }

        boolean hasRoom(int branch) {
            return sizes[branch] < (branch == 0 ? PREFIX_ROOM : BRANCH_ROOM);
        }

        /** How many commands an argument at the end of a branch may stand for. */
        int known(int branch) {
            return branch == 0 ? sizes[0] : sizes[0] + sizes[branch];
        }

        int knownAt(int branch, int k) {
            return k < sizes[0] ? k : start(branch) + k - sizes[0];
        }

        boolean mayTake(int branch, int argument) {
            if (argument < NUMBERS) {
                return argument >= 0;
            }
            int i = argument - NUMBERS;
            return i < sizes[0] || (i >= start(branch) && i < end(branch));
        }

        void empty() {
            for (int b = 0; b < BRANCHES; b++) {
                sizes[b] = 0;
            }
        }

        void copyFrom(Program other) {
            for (int b = 0; b < BRANCHES; b++) {
                sizes[b] = other.sizes[b];
            }
            int size = size();
            System.arraycopy(other.kinds, 0, kinds, 0, size);
            System.arraycopy(other.cells, 0, cells, 0, size);
            System.arraycopy(other.arguments, 0, arguments, 0, size);
        }

        /** The caller has looked for room in the branch. */
        void append(int branch, int kind, int cell, int argument) {
            int at = end(branch);
            shiftUp(at, size());
            sizes[branch]++;
            renumber(at, 1);
            put(at, kind, cell, argument);
        }

        boolean remove(int i) {
            int size = size();
            if (i < 0 || i >= size || isNeeded(i)) {
                return false;
            }
            sizes[branchOf(i)]--;
            for (int j = i + 1; j < size; j++) {
                put(j - 1, kinds[j], cells[j], arguments[j]);
            }
            renumber(i + 1, -1);
            return true;
        }

        boolean promote(int branch) {
            if (sizes[branch] == 0 || !hasRoom(0)) {
                return false;
            }
            int from = start(branch);
            int to = sizes[0];
            int kind = kinds[from];
            int cell = cells[from];
            int argument = arguments[from];
            shiftUp(to, from);
            put(to, kind, cell, argument);
            sizes[branch]--;
            sizes[0]++;
            int size = size();
            for (int i = 0; i < size; i++) {
                int meant = arguments[i] - NUMBERS;
                if (meant == from) {
                    arguments[i] = NUMBERS + to;
                } else if (meant >= to && meant < from) {
                    arguments[i]++;
                }
            }
            return true;
        }

        boolean lower(int i, boolean toHalf) {
            if (i < 0 || i >= size()) {
                return false;
            }
            int number = arguments[i];
            if (number >= NUMBERS || number < (toHalf ? 2 : 1)) {
                return false;
            }
            arguments[i] = toHalf ? number / 2 : 0;
            return true;
        }

        /**
         * Looks at each pair of places that the branches can have reached: which cells are open there
         * is the same in every order that leads to it, as long as each command found what it needs,
         * and never depends on a number, so that 0 does for each. The arguments need no look: what
         * changes a program keeps each of them behind the command that it stands for.
         */
        boolean isValid() {
            int here = Model.CLOSED_CELLS;
            int prefixEnd = end(0);
            for (int i = 0; i < prefixEnd; i++) {
                if (!Model.allows(here, kinds[i], cells[i])) {
                    return false;
                }
                here = Model.after(here, kinds[i], cells[i], 0);
            }
            int oneEnd = end(1);
            for (int one = start(1); one < oneEnd; one++) {
                if (!isValidBeside(here, one)) {
                    return false;
                }
                here = Model.after(here, kinds[one], cells[one], 0);
            }
            return isValidBeside(here, NONE);
        }

        /** Whether branch 2 can be done from there, with command one, if any, between any two of it. */
        private boolean isValidBeside(int there, int one) {
            int here = there;
            int twoEnd = end(2);
            for (int two = start(2); two < twoEnd; two++) {
                if (one != NONE && !Model.allows(here, kinds[one], cells[one])) {
                    return false;
                }
                if (!Model.allows(here, kinds[two], cells[two])) {
                    return false;
                }
                here = Model.after(here, kinds[two], cells[two], 0);
            }
            return one == NONE || Model.allows(here, kinds[one], cells[one]);
        }

        private boolean isNeeded(int i) {
            int size = size();
            for (int j = 0; j < size; j++) {
                if (arguments[j] == NUMBERS + i) {
                    return true;
                }
            }
            return false;
        }

        private void put(int i, int kind, int cell, int argument) {
            kinds[i] = kind;
            cells[i] = cell;
            arguments[i] = argument;
        }

        private void shiftUp(int from, int to) {
            for (int j = to; j > from; j--) {
                put(j, kinds[j - 1], cells[j - 1], arguments[j - 1]);
            }
        }

        /** Lets the arguments that stand for commands from a number on go along with them. */
        private void renumber(int from, int by) {
            int size = size();
            for (int i = 0; i < size; i++) {
                if (arguments[i] >= NUMBERS + from) {
                    arguments[i] += by;
                }
            }
        }
    }

    /** The numbers that follow from a seed. */
    private static final class Draws {
        private long state = 0L;

        void restart(long seed) {
            state = seed;
        }

        int below(int bound) {
            state = state * 6364136223846793005L + 1442695040888963407L;
            int highest = (int) (state >>> 33);
            return bound > 0 ? highest % bound : 0;
        }
    }

    /** The system, and what its commands did in one run. */
    private static final class Machine {
        private static final int CALL = 0;
        private static final int NOTE = 1;
        private static final int ACT = 2;
        private static final int RETURN = 3;
        private static final int LATE = 4;

        /** Five events a command are more than any has. */
        private static final int MOST_EVENTS = 5 * COMMANDS;

        final int[] answers = new int[COMMANDS];
        final int[] numbers = new int[COMMANDS];
        final int[] calls = new int[COMMANDS];
        final int[] returns = new int[COMMANDS];
        int cells = Model.CLOSED_CELLS;
        private final int[] nextCommand = new int[BRANCHES];
        private final int[] nextEvent = new int[BRANCHES];
        private final int[] noted = new int[BRANCHES];
        private int flawBits = 0;

        void perform(Program program, int bits, int schedule) {
            flawBits = bits;
            cells = Model.CLOSED_CELLS;
            for (int b = 0; b < BRANCHES; b++) {
                nextCommand[b] = program.start(b);
                nextEvent[b] = CALL;
            }
            int prefixEnd = program.end(0);
            for (int n = 0; n < MOST_EVENTS && nextCommand[0] < prefixEnd; n++) {
                step(program, 0, NONE);
            }
            int oneEnd = program.end(1);
            int twoEnd = program.end(2);
            for (int moment = 0; moment < MOST_EVENTS; moment++) {
                boolean oneIsDone = nextCommand[1] >= oneEnd;
                boolean twoIsDone = nextCommand[2] >= twoEnd;
                if (oneIsDone && twoIsDone) {
                    break;
                }
                boolean twoIsDue = ((schedule >> (moment % SCHEDULE_BITS)) & 1) == 1;
                step(program, oneIsDone || (twoIsDue && !twoIsDone) ? 2 : 1, moment);
            }
        }

        private void step(Program program, int branch, int moment) {
            int i = nextCommand[branch];
            int kind = program.kinds[i];
            int c = program.cells[i];
            switch (nextEvent[branch]) {
                case CALL:
                    calls[i] = moment;
                    numbers[i] = numberOf(program.arguments[i]);
                    nextEvent[branch] = isSplit(kind) ? NOTE : ACT;
                    break;
                case NOTE:
                    noted[branch] = Model.held(cells, kind == MOVE ? Model.source(c) : c);
                    nextEvent[branch] = ACT;
                    break;
                case ACT:
                    if (isSplit(kind)) {
                        actByNote(i, kind, c, noted[branch]);
                    } else {
                        act(i, kind, c);
                    }
                    nextEvent[branch] = RETURN;
                    break;
                case RETURN:
                    returns[i] = moment;
                    nextEvent[branch] = isLate(kind) ? LATE : CALL;
                    nextCommand[branch] = isLate(kind) ? i : i + 1;
                    break;
                default:
                    cells = Model.after(cells, kind, c, numbers[i]);
                    nextEvent[branch] = CALL;
                    nextCommand[branch] = i + 1;
                    break;
            }
        }

        private int numberOf(int argument) {
            return argument < NUMBERS ? argument : answers[argument - NUMBERS];
        }

        private boolean isSplit(int kind) {
            switch (kind) {
                case ADD:
                    return (flawBits & SPLIT_ADD) != 0;
                case SWAP:
                    return (flawBits & SPLIT_SWAP) != 0;
                case MOVE:
                    return (flawBits & SPLIT_MOVE) != 0;
                default:
                    return false;
            }
        }

        private boolean isLate(int kind) {
            return kind == WRITE && (flawBits & LATE_WRITE) != 0;
        }

        private void act(int i, int kind, int c) {
            answers[i] = Model.answer(cells, kind, c, numbers[i]);
            if (!isLate(kind)) {
                cells = Model.after(cells, kind, c, numbers[i]);
            }
        }

        private void actByNote(int i, int kind, int c, int note) {
            int written;
            switch (kind) {
                case ADD:
                    written = (note + numbers[i]) % NUMBERS;
                    answers[i] = written;
                    break;
                case SWAP:
                    written = numbers[i];
                    answers[i] = note;
                    break;
                default:
                    written = note;
                    answers[i] = Model.held(cells, c);
                    break;
            }
            cells = Model.after(cells, WRITE, c, written);
        }
    }

    /** Looks for the first order of the branches' commands that explains a run. */
    private static final class Judge {
        final int[] witness = new int[2 * BRANCH_ROOM];

        boolean explains(Program program, Machine machine) {
            int cells = Model.CLOSED_CELLS;
            int prefixEnd = program.end(0);
            for (int i = 0; i < prefixEnd; i++) {
                if (!answersSo(program, machine, cells, i)) {
                    return false;
                }
                cells = after(program, machine, cells, i);
            }
            return search(program, machine, cells, program.start(1), program.start(2), 0);
        }

        /** Branch 1's command is tried first, so the first order that is found is the witness. */
        private boolean search(Program program, Machine machine, int cells, int one, int two, int place) {
            boolean hasOne = one < program.end(1);
            boolean hasTwo = two < program.end(2);
            if (!hasOne && !hasTwo) {
                return true;
            }
            if (place >= witness.length) {
                return false;
            }
            // Of the other branch only the next command matters: the later ones return later still.
            boolean oneMayCome = hasOne && !(hasTwo && machine.returns[two] < machine.calls[one]);
            if (oneMayCome && answersSo(program, machine, cells, one)) {
                witness[place] = one;
                int next = after(program, machine, cells, one);
                if (search(program, machine, next, one + 1, two, place + 1)) {
                    return true;
                }
            }
            boolean twoMayCome = hasTwo && !(hasOne && machine.returns[one] < machine.calls[two]);
            if (twoMayCome && answersSo(program, machine, cells, two)) {
                witness[place] = two;
                int next = after(program, machine, cells, two);
                return search(program, machine, next, one, two + 1, place + 1);
            }
            return false;
        }

        private static boolean answersSo(Program program, Machine machine, int cells, int i) {
            int answer = Model.answer(cells, program.kinds[i], program.cells[i], machine.numbers[i]);
            return answer == machine.answers[i];
        }

        private static int after(Program program, Machine machine, int cells, int i) {
            return Model.after(cells, program.kinds[i], program.cells[i], machine.numbers[i]);
        }
    }

    /** Runs programs, judges the runs and counts them; keeps the latest run. */
    private static final class Tester {
        final Machine machine = new Machine();
        final Judge judge = new Judge();
        final int[] tallies = new int[KINDS];
        int flawBits = 0;
        int runs = 0;
        int unexplained = 0;
        int schedule = 0;
        boolean explained = false;
        private final Draws draws = new Draws();

        boolean test(Program program, int scheduleBits) {
            schedule = scheduleBits;
            machine.perform(program, flawBits, scheduleBits);
            explained = judge.explains(program, machine);
            runs++;
            if (!explained) {
                unexplained++;
            }
            int size = program.size();
            for (int i = 0; i < size; i++) {
                tallies[program.kinds[i]]++;
            }
            return explained;
        }

        int firstFailure(Program program, long seed, int most) {
            draws.restart(seed);
            for (int n = 0; n < most; n++) {
                if (!test(program, draws.below(SCHEDULES))) {
                    return n;
                }
            }
            return NONE;
        }
    }
}
