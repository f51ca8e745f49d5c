import java.util.NoSuchElementException;

/** A repair service with three barrows. */
public final class RepairBarrows {
    private static final int BARROWS = 3;
    private static final int TOOLS = 6;
    private static final int KINDS = 4;
    private static final int MAX_COORDINATE = 20;
    private static final int MAX_WORK = 4;
    private static final int MAX_DUE = 199;
    private static final int MAX_REST = 99;
    private static final int MAX_JOBS = 12;
    private static final int MAX_ASSIGNED = 6;
    private static final int MAX_PARTS = 10;
    private static final int MAX_STOCK = 99;
    private static final int MAX_UNDO = 8;
    private static final int PAY_AN_HOUR = 10;
    private static final int FEE_AN_HOUR = 2;
    private static final int MAX_TEXT = 60;
    private static final int MAX_DIGITS = 3;
    private static final int MAX_ARGUMENTS = 6;
    // The shortest command has 6 characters and a semicolon ahead of the next one:
    // 8 of them fit into the buffer, and the ninth can only begin there.
    private static final int MAX_COMMANDS = 9;
    // No barrow has more than 6 jobs, which have 720 orders.
    private static final int MAX_ORDERS = 720;

    private static final int NONE = -1;

    // What a change answers in place of a number when it is refused. No change that
    // succeeds answers a negative number, so a program learns of a failed command
    // without an exception.
    private static final int BAD_ARGUMENT = -1;
    private static final int BAD_STATE = -2;
    private static final int BAD_INDEX = -3;
    private static final int NO_ELEMENT = -4;
    private static final int UNSUPPORTED = -5;

    private static final Verb[] VERBS = Verb.values();

    private final State now = new State();
    private final State saved = new State();
    private boolean hasSaved = false;
    private final History history = new History();
    private final Planner planner = new Planner();
    private final Program program = new Program();
    private final StringBuilder line = new StringBuilder();
    private int lastError = NONE;
    private int lastFailure = NONE;

    public RepairBarrows() {
    }

    // ---- jobs

    public int addJob(int x, int y, char kind, int tool, int work, int due)
            throws IllegalArgumentException, IllegalStateException {
        history.prepare(now);
        return settle(now.enterJob(x, y, kindIndex(kind), tool, work, due));
    }

    public int cancelJob(int job) throws NoSuchElementException {
        history.prepare(now);
        return settle(now.dropJob(job));
    }

    public int assign(int job, int barrow)
            throws NoSuchElementException, IndexOutOfBoundsException, IllegalStateException {
        history.prepare(now);
        return settle(now.handJob(job, barrow));
    }

    public int unassign(int job) throws NoSuchElementException, IllegalStateException {
        history.prepare(now);
        return settle(now.withdrawJob(job));
    }

    // ---- parts and tools

    public int addStock(char kind, int count) throws IllegalArgumentException, IllegalStateException {
        history.prepare(now);
        return settle(now.fillStock(kindIndex(kind), count));
    }

    public int load(int barrow, char kind, int count) throws IndexOutOfBoundsException,
            IllegalArgumentException, IllegalStateException, UnsupportedOperationException {
        history.prepare(now);
        return settle(now.loadParts(barrow, kindIndex(kind), count));
    }

    public int borrow(int barrow, int tool) throws IndexOutOfBoundsException, IllegalStateException {
        history.prepare(now);
        return settle(now.lendTool(barrow, tool));
    }

    public int giveBack(int barrow, int tool) throws IndexOutOfBoundsException, IllegalStateException {
        history.prepare(now);
        return settle(now.returnTool(barrow, tool));
    }

    // ---- driving and repairing

    public int repair(int barrow, int job) throws IndexOutOfBoundsException, NoSuchElementException,
            IllegalStateException, UnsupportedOperationException {
        history.prepare(now);
        return settle(now.fixJob(barrow, job));
    }

    public int goHome(int barrow) throws IndexOutOfBoundsException {
        history.prepare(now);
        return settle(now.driveHome(barrow));
    }

    public int rest(int barrow, int hours) throws IndexOutOfBoundsException, IllegalArgumentException {
        history.prepare(now);
        return settle(now.pause(barrow, hours));
    }

    // ---- properties of jobs

    public int jobs() {
        return now.openJobs;
    }

    public boolean isOpen(int job) {
        return now.findJob(job) != null;
    }

    public char kind(int job) throws NoSuchElementException {
        return kindLetter(openJob(job).kind);
    }

    public int tool(int job) throws NoSuchElementException {
        return openJob(job).tool;
    }

    public int due(int job) throws NoSuchElementException {
        return openJob(job).due;
    }

    public int barrowOf(int job) throws NoSuchElementException {
        int barrow = openJob(job).barrow;
        if (barrow == NONE) {
            throw new NoSuchElementException();
        }
        return barrow;
    }

    public int jobByDue(int rank) throws NoSuchElementException {
        for (int i = 0; i < now.openJobs; i++) {
            Job job = now.jobs[i];
            if (now.dueRank(job) == rank) {
                return job.number;
            }
        }
        throw new NoSuchElementException();
    }

    // ---- properties of parts and tools

    public int stock(char kind) throws IllegalArgumentException {
        return now.stock[checkedKind(kind)];
    }

    public int parts(int barrow, char kind) throws IndexOutOfBoundsException, IllegalArgumentException {
        Barrow asked = checkedBarrow(barrow);
        return asked.parts[checkedKind(kind)];
    }

    public int tools(int barrow) throws IndexOutOfBoundsException {
        checkedBarrow(barrow);
        return now.countTools(barrow);
    }

    public int holder(int tool) throws IndexOutOfBoundsException, NoSuchElementException {
        if (!isTool(tool)) {
            throw new IndexOutOfBoundsException();
        }
        int barrow = now.holders[tool];
        if (barrow == NONE) {
            throw new NoSuchElementException();
        }
        return barrow;
    }

    // ---- properties of barrows

    public int barrowX(int barrow) throws IndexOutOfBoundsException {
        return checkedBarrow(barrow).x;
    }

    public int barrowY(int barrow) throws IndexOutOfBoundsException {
        return checkedBarrow(barrow).y;
    }

    public int clock(int barrow) throws IndexOutOfBoundsException {
        return checkedBarrow(barrow).clock;
    }

    public boolean isHome(int barrow) throws IndexOutOfBoundsException {
        return checkedBarrow(barrow).isAtShed();
    }

    public int assigned(int barrow) throws IndexOutOfBoundsException {
        checkedBarrow(barrow);
        return now.countAssigned(barrow);
    }

    public boolean canRepair(int barrow, int job) throws IndexOutOfBoundsException, NoSuchElementException {
        checkedBarrow(barrow);
        Job asked = openJob(job);
        return now.hasTool(barrow, asked) && now.hasPart(barrow, asked);
    }

    public int finish(int barrow, int job) throws IndexOutOfBoundsException, NoSuchElementException {
        Barrow asked = checkedBarrow(barrow);
        return asked.finishOf(openJob(job));
    }

    public int fastestBarrow(int job) throws NoSuchElementException {
        Job asked = openJob(job);
        int fastest = 0;
        for (int i = 1; i < BARROWS; i++) {
            if (now.barrows[i].finishOf(asked) < now.barrows[fastest].finishOf(asked)) {
                fastest = i;
            }
        }
        return fastest;
    }

    // ---- plans

    public int bestLateness(int barrow) throws IndexOutOfBoundsException {
        checkedBarrow(barrow);
        return planner.leastByRecursion(now, barrow);
    }

    public int bestLatenessByOrders(int barrow) throws IndexOutOfBoundsException {
        checkedBarrow(barrow);
        return planner.leastByOrders(now, barrow);
    }

    public int planned(int barrow, int position) throws IndexOutOfBoundsException, NoSuchElementException {
        checkedBarrow(barrow);
        planner.leastByRecursion(now, barrow);
        if (position < 0 || position >= planner.count) {
            throw new NoSuchElementException();
        }
        return planner.bestOrder[position];
    }

    // ---- accounts

    public int earnings(int barrow) throws IndexOutOfBoundsException {
        return checkedBarrow(barrow).earnings;
    }

    public long totalEarnings() {
        long total = 0;
        for (Barrow barrow : now.barrows) {
            total += barrow.earnings;
        }
        return total;
    }

    public long totalEarningsByHours() {
        return PAY_AN_HOUR * now.hoursOfWork - FEE_AN_HOUR * now.hoursOfLateness;
    }

    public int repaired() {
        return now.repairedJobs;
    }

    public double meanLateness() throws ArithmeticException {
        if (now.repairedJobs == 0) {
            throw new ArithmeticException();
        }
        return (double) now.hoursOfLateness / (double) now.repairedJobs;
    }

    public float borrowedShare() {
        int borrowed = 0;
        for (int barrow : now.holders) {
            if (barrow != NONE) {
                borrowed++;
            }
        }
        return (float) borrowed / (float) TOOLS;
    }

    public int barrowByEarnings(int rank) throws NoSuchElementException {
        for (int i = 0; i < BARROWS; i++) {
            if (now.earningsRank(i) == rank) {
                return i;
            }
        }
        throw new NoSuchElementException();
    }

    public boolean isConsistent() {
        for (int i = 0; i < BARROWS; i++) {
            if (planner.leastByRecursion(now, i) != planner.leastByOrders(now, i)
                    || now.barrows[i].countParts() > MAX_PARTS
                    || now.countAssigned(i) > MAX_ASSIGNED) {
                return false;
            }
        }
        return totalEarnings() == totalEarningsByHours();
    }

    // ---- output

    public int writeBarrow(int barrow) throws IndexOutOfBoundsException {
        Barrow asked = checkedBarrow(barrow);
        line.setLength(0);
        line.append(barrow).append('@').append(asked.x).append(',').append(asked.y);
        line.append('+').append(asked.clock);
        for (int tool = 0; tool < TOOLS; tool++) {
            if (now.holders[tool] == barrow) {
                line.append(" t").append(tool);
            }
        }
        for (int kind = 0; kind < KINDS; kind++) {
            if (asked.parts[kind] > 0) {
                line.append(' ').append(kindLetter(kind)).append(asked.parts[kind]);
            }
        }
        return line.length();
    }

    public int writePlan(int barrow) throws IndexOutOfBoundsException {
        checkedBarrow(barrow);
        planner.leastByRecursion(now, barrow);
        line.setLength(0);
        for (int i = 0; i < planner.count; i++) {
            if (i > 0) {
                line.append('>');
            }
            line.append(planner.bestOrder[i]).append(':').append(planner.bestFinishes[i]);
        }
        return line.length();
    }

    public char charAt(int index) throws IndexOutOfBoundsException {
        if (index < 0 || index >= line.length()) {
            throw new IndexOutOfBoundsException();
        }
        return line.charAt(index);
    }

    // ---- programs

    public int type(char character) throws IllegalStateException {
        if (program.isFull()) {
            throw new IllegalStateException();
        }
        return program.append(character);
    }

    public int run() throws IllegalArgumentException, UnsupportedOperationException {
        int error = program.parse();
        program.empty();
        if (error != NONE) {
            lastError = error;
            throw new IllegalArgumentException();
        }
        history.prepare(now);
        int failure = firstFailure();
        if (failure != NONE) {
            history.abandon(now);
            lastFailure = failure;
            throw new UnsupportedOperationException();
        }
        history.confirm();
        return program.count;
    }

    public int errorPosition() throws NoSuchElementException {
        if (lastError == NONE) {
            throw new NoSuchElementException();
        }
        return lastError;
    }

    public int failedCommand() throws NoSuchElementException {
        if (lastFailure == NONE) {
            throw new NoSuchElementException();
        }
        return lastFailure;
    }

    // ---- undo and snapshots

    public int undo() throws IllegalStateException {
        if (history.count == 0) {
            throw new IllegalStateException();
        }
        history.takeBack(now);
        return history.count;
    }

    public int save() {
        saved.copyFrom(now);
        hasSaved = true;
        return now.openJobs;
    }

    public int restore() throws IllegalStateException {
        if (!hasSaved) {
            throw new IllegalStateException();
        }
        now.copyFrom(saved);
        history.forget();
        return now.openJobs;
    }

    // ---- private: what the calls above share

    private int settle(int answer) {
        switch (answer) {
            case BAD_ARGUMENT:
                throw new IllegalArgumentException();
            case BAD_STATE:
                throw new IllegalStateException();
            case BAD_INDEX:
                throw new IndexOutOfBoundsException();
            case NO_ELEMENT:
                throw new NoSuchElementException();
            case UNSUPPORTED:
                throw new UnsupportedOperationException();
            default:
                history.confirm();
                return answer;
        }
    }

    private int firstFailure() {
        for (int i = 0; i < program.count; i++) {
            if (execute(program.commands[i]) < 0) {
                return i;
            }
        }
        return NONE;
    }

    private int execute(Command command) {
        int[] a = command.arguments;
        switch (command.verb) {
            case JOB:
                return now.enterJob(a[0], a[1], a[2], a[3], a[4], a[5]);
            case CANCEL:
                return now.dropJob(a[0]);
            case GIVE:
                return now.handJob(a[0], a[1]);
            case TAKE:
                return now.withdrawJob(a[0]);
            case STOCK:
                return now.fillStock(a[0], a[1]);
            case LOAD:
                return now.loadParts(a[0], a[1], a[2]);
            case BORROW:
                return now.lendTool(a[0], a[1]);
            case RETURN:
                return now.returnTool(a[0], a[1]);
            case FIX:
                return now.fixJob(a[0], a[1]);
            case HOME:
                return now.driveHome(a[0]);
            default:
                return now.pause(a[0], a[1]);
        }
    }

    private Barrow checkedBarrow(int barrow) {
        if (!isBarrow(barrow)) {
            throw new IndexOutOfBoundsException();
        }
        return now.barrows[barrow];
    }

    private Job openJob(int number) {
        Job job = now.findJob(number);
        if (job == null) {
            throw new NoSuchElementException();
        }
        return job;
    }

    private static int checkedKind(char kind) {
        int index = kindIndex(kind);
        if (!isKind(index)) {
            throw new IllegalArgumentException();
        }
        return index;
    }

    private static int kindIndex(char letter) {
        return letter >= 'a' && letter < 'a' + KINDS ? letter - 'a' : NONE;
    }

    private static char kindLetter(int index) {
        return (char) ('a' + index);
    }

    private static boolean isKind(int index) {
        return index >= 0 && index < KINDS;
    }

    private static boolean isTool(int tool) {
        return tool >= 0 && tool < TOOLS;
    }

    private static boolean isBarrow(int barrow) {
        return barrow >= 0 && barrow < BARROWS;
    }

    private static boolean isCoordinate(int value) {
        return value >= 0 && value <= MAX_COORDINATE;
    }

    private static int distance(int x, int y, int otherX, int otherY) {
        return Math.abs(x - otherX) + Math.abs(y - otherY);
    }

    /** An open job, or a row that waits for one. */
    private static final class Job {
        int number;
        int x;
        int y;
        int kind;
        int tool;
        int work;
        int due;
        int barrow = NONE;

        void copyFrom(Job other) {
            number = other.number;
            x = other.x;
            y = other.y;
            kind = other.kind;
            tool = other.tool;
            work = other.work;
            due = other.due;
            barrow = other.barrow;
        }

        int finishFrom(int fromX, int fromY, int clock) {
            return clock + distance(fromX, fromY, x, y) + work;
        }

        int latenessAt(int finish) {
            return Math.max(finish - due, 0);
        }

        boolean isDueBefore(Job other) {
            return due < other.due || due == other.due && number < other.number;
        }
    }

    /** A barrow, but for its tools: each tool knows the barrow that holds it. */
    private static final class Barrow {
        int x;
        int y;
        int clock;
        int earnings;
        final int[] parts = new int[KINDS];

        void copyFrom(Barrow other) {
            x = other.x;
            y = other.y;
            clock = other.clock;
            earnings = other.earnings;
            System.arraycopy(other.parts, 0, parts, 0, KINDS);
        }

        boolean isAtShed() {
            return x == 0 && y == 0;
        }

        int countParts() {
            int count = 0;
            for (int some : parts) {
                count += some;
            }
            return count;
        }

        void usePart(int kind) {
            if (isKind(kind)) {
                parts[kind]--;
            }
        }

        int finishOf(Job job) {
            return job.finishFrom(x, y, clock);
        }

        boolean ranksBefore(Barrow other) {
            return earnings > other.earnings || earnings == other.earnings && clock < other.clock;
        }
    }

    /** All that is undone, saved and restored. A change answers its number or a fault below 0. */
    private static final class State {
        // The open jobs stand first, in the order of their numbers, which plans rely on.
        final Job[] jobs = new Job[MAX_JOBS];
        int openJobs = 0;
        int nextNumber = 0;
        final Barrow[] barrows = new Barrow[BARROWS];
        final int[] stock = new int[KINDS];
        final int[] holders = new int[TOOLS];
        int repairedJobs = 0;
        long hoursOfWork = 0;
        long hoursOfLateness = 0;

        State() {
            for (int i = 0; i < MAX_JOBS; i++) {
                jobs[i] = new Job();
            }
            for (int i = 0; i < BARROWS; i++) {
                barrows[i] = new Barrow();
            }
            for (int i = 0; i < TOOLS; i++) {
                holders[i] = NONE;
            }
        }

        void copyFrom(State other) {
            for (int i = 0; i < MAX_JOBS; i++) {
                jobs[i].copyFrom(other.jobs[i]);
            }
            openJobs = other.openJobs;
            nextNumber = other.nextNumber;
            for (int i = 0; i < BARROWS; i++) {
                barrows[i].copyFrom(other.barrows[i]);
            }
            System.arraycopy(other.stock, 0, stock, 0, KINDS);
            System.arraycopy(other.holders, 0, holders, 0, TOOLS);
            repairedJobs = other.repairedJobs;
            hoursOfWork = other.hoursOfWork;
            hoursOfLateness = other.hoursOfLateness;
        }

        int enterJob(int x, int y, int kind, int tool, int work, int due) {
            if (!isCoordinate(x) || !isCoordinate(y) || !isKind(kind) || !isTool(tool)
                    || work < 1 || work > MAX_WORK || due < 1 || due > MAX_DUE) {
                return BAD_ARGUMENT;
            }
            if (openJobs >= MAX_JOBS) {
                return BAD_STATE;
            }
            Job job = jobs[openJobs];
            job.number = nextNumber;
            job.x = x;
            job.y = y;
            job.kind = kind;
            job.tool = tool;
            job.work = work;
            job.due = due;
            job.barrow = NONE;
            openJobs++;
            nextNumber++;
            return job.number;
        }

        int dropJob(int number) {
            Job job = findJob(number);
            if (job == null) {
                return NO_ELEMENT;
            }
            close(job);
            return openJobs;
        }

        int handJob(int number, int barrow) {
            Job job = findJob(number);
            if (job == null) {
                return NO_ELEMENT;
            }
            if (!isBarrow(barrow)) {
                return BAD_INDEX;
            }
            if (job.barrow == barrow || countAssigned(barrow) >= MAX_ASSIGNED) {
                return BAD_STATE;
            }
            job.barrow = barrow;
            return countAssigned(barrow);
        }

        int withdrawJob(int number) {
            Job job = findJob(number);
            if (job == null) {
                return NO_ELEMENT;
            }
            if (job.barrow == NONE) {
                return BAD_STATE;
            }
            int barrow = job.barrow;
            job.barrow = NONE;
            return barrow;
        }

        int fillStock(int kind, int count) {
            if (!isKind(kind) || count < 1 || count > MAX_STOCK) {
                return BAD_ARGUMENT;
            }
            if (stock[kind] + count > MAX_STOCK) {
                return BAD_STATE;
            }
            stock[kind] += count;
            return stock[kind];
        }

        int loadParts(int barrow, int kind, int count) {
            if (!isBarrow(barrow)) {
                return BAD_INDEX;
            }
            if (!isKind(kind) || count < 1 || count > MAX_PARTS) {
                return BAD_ARGUMENT;
            }
            Barrow loaded = barrows[barrow];
            if (!loaded.isAtShed() || loaded.countParts() + count > MAX_PARTS) {
                return BAD_STATE;
            }
            if (stock[kind] < count) {
                return UNSUPPORTED;
            }
            stock[kind] -= count;
            loaded.parts[kind] += count;
            return loaded.countParts();
        }

        int lendTool(int barrow, int tool) {
            if (!isBarrow(barrow) || !isTool(tool)) {
                return BAD_INDEX;
            }
            if (!barrows[barrow].isAtShed() || holders[tool] != NONE) {
                return BAD_STATE;
            }
            holders[tool] = barrow;
            return countTools(barrow);
        }

        int returnTool(int barrow, int tool) {
            if (!isBarrow(barrow) || !isTool(tool)) {
                return BAD_INDEX;
            }
            if (!barrows[barrow].isAtShed() || holders[tool] != barrow) {
                return BAD_STATE;
            }
            holders[tool] = NONE;
            return countTools(barrow);
        }

        int fixJob(int barrow, int number) {
            if (!isBarrow(barrow)) {
                return BAD_INDEX;
            }
            Job job = findJob(number);
            if (job == null) {
                return NO_ELEMENT;
            }
            if (!hasTool(barrow, job)) {
                return BAD_STATE;
            }
            if (!hasPart(barrow, job)) {
                return UNSUPPORTED;
            }
            Barrow driven = barrows[barrow];
            int finish = driven.finishOf(job);
            int lateness = job.latenessAt(finish);
            driven.clock = finish;
            driven.x = job.x;
            driven.y = job.y;
            driven.usePart(job.kind);
            driven.earnings += PAY_AN_HOUR * job.work - FEE_AN_HOUR * lateness;
            hoursOfWork += job.work;
            hoursOfLateness += lateness;
            repairedJobs++;
            close(job);
            return FEE_AN_HOUR * lateness;
        }

        int driveHome(int barrow) {
            if (!isBarrow(barrow)) {
                return BAD_INDEX;
            }
            Barrow driven = barrows[barrow];
            driven.clock += distance(driven.x, driven.y, 0, 0);
            driven.x = 0;
            driven.y = 0;
            return driven.clock;
        }

        int pause(int barrow, int hours) {
            if (!isBarrow(barrow)) {
                return BAD_INDEX;
            }
            if (hours < 1 || hours > MAX_REST) {
                return BAD_ARGUMENT;
            }
            barrows[barrow].clock += hours;
            return barrows[barrow].clock;
        }

        Job findJob(int number) {
            for (int i = 0; i < openJobs; i++) {
                if (jobs[i].number == number) {
                    return jobs[i];
                }
            }
            return null;
        }

        // The row goes behind the open ones, so that a later job can have it.
        private void close(Job job) {
            int gap = 0;
            for (int i = 0; i < openJobs; i++) {
                if (jobs[i] != job) {
                    jobs[gap] = jobs[i];
                    gap++;
                }
            }
            if (gap < openJobs) {
                jobs[gap] = job;
                openJobs = gap;
            }
        }

        int dueRank(Job job) {
            int rank = 0;
            for (int i = 0; i < openJobs; i++) {
                if (jobs[i].isDueBefore(job)) {
                    rank++;
                }
            }
            return rank;
        }

        int earningsRank(int barrow) {
            int rank = 0;
            for (int i = 0; i < BARROWS; i++) {
                boolean winsTie = i < barrow && !barrows[barrow].ranksBefore(barrows[i]);
                if (winsTie || barrows[i].ranksBefore(barrows[barrow])) {
                    rank++;
                }
            }
            return rank;
        }

        int countAssigned(int barrow) {
            int count = 0;
            for (int i = 0; i < openJobs; i++) {
                if (jobs[i].barrow == barrow) {
                    count++;
                }
            }
            return count;
        }

        int countTools(int barrow) {
            int count = 0;
            for (int holder : holders) {
                if (holder == barrow) {
                    count++;
                }
            }
            return count;
        }

        boolean hasTool(int barrow, Job job) {
            return isTool(job.tool) && holders[job.tool] == barrow;
        }

        boolean hasPart(int barrow, Job job) {
            return isBarrow(barrow) && isKind(job.kind) && barrows[barrow].parts[job.kind] > 0;
        }
    }

    /** The states ahead of the latest changes, in a ring of rows that are used again. */
    private static final class History {
        // One row more than can be undone: a change that is refused must not cost the oldest one.
        private static final int ROWS = MAX_UNDO + 1;
        private final State[] rows = new State[ROWS];
        private int next = 0;
        int count = 0;

        History() {
            for (int i = 0; i < ROWS; i++) {
                rows[i] = new State();
            }
        }

        void prepare(State state) {
            rows[next].copyFrom(state);
        }

        void confirm() {
            next = next + 1 < ROWS ? next + 1 : 0;
            count = Math.min(count + 1, MAX_UNDO);
        }

        void abandon(State state) {
            state.copyFrom(rows[next]);
        }

        void takeBack(State state) {
            next = next > 0 ? next - 1 : ROWS - 1;
            count--;
            state.copyFrom(rows[next]);
        }

        void forget() {
            count = 0;
        }
    }

    /** Finds the best plan of a barrow; its rows are made once and used by every call. */
    private static final class Planner {
        private final Job[] jobs = new Job[MAX_ASSIGNED];
        private final boolean[] isChosen = new boolean[MAX_ASSIGNED];
        private final int[] order = new int[MAX_ASSIGNED];
        private final int[] finishes = new int[MAX_ASSIGNED];
        private boolean hasBest = false;
        private int best = 0;
        final int[] bestOrder = new int[MAX_ASSIGNED];
        final int[] bestFinishes = new int[MAX_ASSIGNED];
        int count = 0;

        Planner() {
            for (int i = 0; i < MAX_ASSIGNED; i++) {
                jobs[i] = new Job();
            }
        }

        int leastByRecursion(State state, int barrow) {
            collect(state, barrow);
            hasBest = false;
            best = 0;
            if (isBarrow(barrow)) {
                Barrow planned = state.barrows[barrow];
                choose(0, planned.x, planned.y, planned.clock, 0);
            }
            return best;
        }

        int leastByOrders(State state, int barrow) {
            collect(state, barrow);
            if (!isBarrow(barrow)) {
                return 0;
            }
            int least = latenessInOrder(state.barrows[barrow]);
            for (int i = 1; i < MAX_ORDERS && goToNextOrder(); i++) {
                least = Math.min(least, latenessInOrder(state.barrows[barrow]));
            }
            return least;
        }

        private void collect(State state, int barrow) {
            count = 0;
            for (int i = 0; i < state.openJobs; i++) {
                if (state.jobs[i].barrow == barrow && count < MAX_ASSIGNED) {
                    jobs[count].copyFrom(state.jobs[i]);
                    count++;
                }
            }
        }

        private void choose(int depth, int x, int y, int clock, int lateness) {
            if (depth >= count || depth >= MAX_ASSIGNED) {
                keepIfBetter(lateness);
                return;
            }
            for (int i = 0; i < count; i++) {
                if (!isChosen[i]) {
                    isChosen[i] = true;
                    goOnWith(jobs[i], depth, jobs[i].finishFrom(x, y, clock), lateness);
                    isChosen[i] = false;
                }
            }
        }

        private void goOnWith(Job job, int depth, int finish, int lateness) {
            order[depth] = job.number;
            finishes[depth] = finish;
            choose(depth + 1, job.x, job.y, finish, lateness + job.latenessAt(finish));
        }

        // The plans come in ascending order: an equal one that comes later is not the best.
        private void keepIfBetter(int lateness) {
            if (!hasBest || lateness < best) {
                hasBest = true;
                best = lateness;
                System.arraycopy(order, 0, bestOrder, 0, MAX_ASSIGNED);
                System.arraycopy(finishes, 0, bestFinishes, 0, MAX_ASSIGNED);
            }
        }

        private int latenessInOrder(Barrow barrow) {
            int x = barrow.x;
            int y = barrow.y;
            int clock = barrow.clock;
            int lateness = 0;
            for (int i = 0; i < count; i++) {
                Job job = jobs[i];
                clock = job.finishFrom(x, y, clock);
                lateness += job.latenessAt(clock);
                x = job.x;
                y = job.y;
            }
            return lateness;
        }

        private boolean goToNextOrder() {
            int rise = count - 2;
            while (rise >= 0 && jobs[rise].number > jobs[rise + 1].number) {
                rise--;
            }
            if (rise < 0) {
                return false;
            }
            int greater = count - 1;
            while (greater > rise && jobs[greater].number < jobs[rise].number) {
                greater--;
            }
            swap(rise, greater);
            int low = rise + 1;
            for (int high = count - 1; low < high; high--) {
                swap(low, high);
                low++;
            }
            return true;
        }

        private void swap(int first, int second) {
            Job job = jobs[first];
            jobs[first] = jobs[second];
            jobs[second] = job;
        }
    }

    /** The commands; in a shape, # is a number, % a digit and ? a kind, and all else is itself. */
    private enum Verb {
        JOB("job #,# ?% %@#"),
        CANCEL("cancel #"),
        GIVE("give #>%"),
        TAKE("take #"),
        STOCK("stock ?#"),
        LOAD("load %?#"),
        BORROW("borrow %%"),
        RETURN("return %%"),
        FIX("fix % #"),
        HOME("home %"),
        REST("rest % #");

        final String shape;

        Verb(String shape) {
            this.shape = shape;
        }
    }

    /** A parsed command: its arguments have the order that the method for it has. */
    private static final class Command {
        Verb verb = Verb.JOB;
        final int[] arguments = new int[MAX_ARGUMENTS];
    }

    /** The program buffer and the commands that were read in it. */
    private static final class Program {
        private final char[] text = new char[MAX_TEXT];
        private int length = 0;
        private int at = 0;
        final Command[] commands = new Command[MAX_COMMANDS];
        int count = 0;

        Program() {
            for (int i = 0; i < MAX_COMMANDS; i++) {
                commands[i] = new Command();
            }
        }

        boolean isFull() {
            return length >= MAX_TEXT;
        }

        int append(char character) {
            if (length < MAX_TEXT) {
                text[length] = character;
                length++;
            }
            return length;
        }

        void empty() {
            length = 0;
        }

        /** Answers the error position, or NONE if the text is a program. */
        int parse() {
            at = 0;
            count = 0;
            for (int i = 0; i < MAX_COMMANDS; i++) {
                if (!readCommand(commands[i])) {
                    return at;
                }
                count = i + 1;
                if (at >= length) {
                    return NONE;
                }
                if (!readSign(';')) {
                    return at;
                }
            }
            return at;
        }

        // No command is the beginning of another one, so the shape that gets furthest
        // tells how far a program could go on.
        private boolean readCommand(Command command) {
            int start = at;
            int furthest = at;
            for (Verb verb : VERBS) {
                at = start;
                if (readShape(verb.shape, command.arguments)) {
                    command.verb = verb;
                    return true;
                }
                furthest = Math.max(furthest, at);
            }
            at = furthest;
            return false;
        }

        private boolean readShape(String shape, int[] arguments) {
            int known = 0;
            for (int i = 0; i < shape.length(); i++) {
                char sign = shape.charAt(i);
                if (sign == '#' || sign == '%' || sign == '?') {
                    int value = readArgument(sign);
                    if (value == NONE || known >= arguments.length) {
                        return false;
                    }
                    arguments[known] = value;
                    known++;
                } else if (!readSign(sign)) {
                    return false;
                }
            }
            return true;
        }

        private int readArgument(char sign) {
            if (sign == '#') {
                return readNumber();
            }
            return sign == '%' ? readDigit() : readKind();
        }

        private int readNumber() {
            int value = readDigit();
            int digit = value;
            for (int i = 1; i < MAX_DIGITS && digit != NONE; i++) {
                digit = readDigit();
                if (digit != NONE) {
                    value = 10 * value + digit;
                }
            }
            return value;
        }

        private int readDigit() {
            if (at >= length || text[at] < '0' || text[at] > '9') {
                return NONE;
            }
            int digit = text[at] - '0';
            at++;
            return digit;
        }

        private int readKind() {
            int kind = at < length ? kindIndex(text[at]) : NONE;
            if (kind != NONE) {
                at++;
            }
            return kind;
        }

        private boolean readSign(char sign) {
            if (at >= length || text[at] != sign) {
                return false;
            }
            at++;
            return true;
        }
    }
}
