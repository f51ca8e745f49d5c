import java.util.NoSuchElementException;

/**
 * Every sentence of the document that begins with "Throws": the first values that are not allowed, the
 * exception that is due, the one that is listed first where several are, and that nothing has changed.
 */
public final class RefusedCallsTest {
    private static final Class<IllegalArgumentException> ARGUMENT = IllegalArgumentException.class;
    private static final Class<IllegalStateException> STATE = IllegalStateException.class;
    private static final Class<IndexOutOfBoundsException> INDEX = IndexOutOfBoundsException.class;
    private static final Class<NoSuchElementException> ELEMENT = NoSuchElementException.class;
    private static final Class<UnsupportedOperationException> UNSUPPORTED = UnsupportedOperationException.class;
    private static final int LEAST = Integer.MIN_VALUE;
    private static final int GREATEST = Integer.MAX_VALUE;
    private static final int[] NO_BARROWS = {-1, 3, LEAST, GREATEST};
    private static final int[] NO_TOOLS = {-1, 6, LEAST, GREATEST};
    private static final char[] NO_KINDS = {'`', 'e', 'A', '0', (char) 0, (char) 0x161, (char) 0xffff};
    // Of a busy service: repaired, cancelled, and never added.
    private static final int[] NO_JOBS = {0, 1, 14, -1, LEAST, GREATEST};

    private final Expect expect = new Expect();
    private final Twins fresh = new Twins(expect, RepairBarrows::new, "home 0");
    private final Twins busy = new Twins(expect, Services::busy, "");
    private final Twins quiet = new Twins(expect, Services::quiet, Services.WAITING);
    private final Twins full = new Twins(expect, Services::full, "");
    private final Twins unsaved = new Twins(expect, Services::equipped, "home 0");
    private final Twins undone = new Twins(expect, RefusedCallsTest::undone, Services.WAITING);
    private final Twins restored = new Twins(expect, RefusedCallsTest::restored, Services.WAITING);
    private final Twins failedOnly = new Twins(expect, RefusedCallsTest::failedOnly, "home 0");
    private final Twins wrongOnly = new Twins(expect, RefusedCallsTest::wrongOnly, "home 0");

    public static void main(String[] arguments) {
        RefusedCallsTest test = new RefusedCallsTest();
        test.jobs();
        test.partsAndTools();
        test.drivingAndRepairing();
        test.questions();
        test.accountsAndOutput();
        test.programs();
        test.undoAndRestore();
        test.expect.end();
    }

    private void jobs() {
        addJobArguments();
        addJobState();
        cancelJob();
        assign();
        unassign();
    }

    private void partsAndTools() {
        addStock();
        load();
        borrow();
        giveBack();
    }

    private void drivingAndRepairing() {
        repair();
        goHome();
        rest();
    }

    private void questions() {
        ofJobs();
        barrowOf();
        jobByDue();
        stockAndParts();
        holder();
        ofBarrows();
        canRepairAndFinish();
        planned();
    }

    private void accountsAndOutput() {
        meanLateness();
        barrowByEarnings();
        write();
        charAt();
    }

    private void programs() {
        type();
        runOfNoProgram();
        runOfFailingProgram();
        eachCommandFails();
        noRecord();
    }

    private void undoAndRestore() {
        undo();
        restore();
    }

    // ---- promises 2 to 5

    private void addJobArguments() {
        expect.part("2 IllegalArgumentException if an argument is out of range");
        for (int place : new int[] {-1, 21, LEAST, GREATEST}) {
            addWrong("x " + place, place, 0, 'a', 0, 1, 1);
            addWrong("y " + place, 0, place, 'a', 0, 1, 1);
        }
        for (char kind : NO_KINDS) {
            addWrong("kind " + (int) kind, 0, 0, kind, 0, 1, 1);
        }
        for (int tool : NO_TOOLS) {
            addWrong("tool " + tool, 0, 0, 'a', tool, 1, 1);
        }
        for (int work : new int[] {0, 5, -1, LEAST, GREATEST}) {
            addWrong("work " + work, 0, 0, 'a', 0, work, 1);
        }
        for (int due : new int[] {0, 200, -1, LEAST, GREATEST}) {
            addWrong("due " + due, 0, 0, 'a', 0, 1, due);
        }
    }

    /** The busy service has 12 open jobs, so that both exceptions of addJob are due on it. */
    private void addWrong(String name, int x, int y, char kind, int tool, int work, int due) {
        fresh.refuse(name, ARGUMENT, service -> service.addJob(x, y, kind, tool, work, due));
        busy.refuse(name + " for a 13th", ARGUMENT, service -> service.addJob(x, y, kind, tool, work, due));
    }

    private void addJobState() {
        expect.part("2 IllegalStateException if there are 12 open jobs");
        busy.refuse("a 13th", STATE, service -> service.addJob(0, 0, 'a', 0, 1, 1));
        busy.refuse("the greatest 13th", STATE, service -> service.addJob(20, 20, 'd', 5, 4, 199));
    }

    private void cancelJob() {
        expect.part("3 NoSuchElementException if there is no such open job");
        fresh.refuse("no jobs at all", ELEMENT, service -> service.cancelJob(0));
        for (int job : NO_JOBS) {
            busy.refuse("job " + job, ELEMENT, service -> service.cancelJob(job));
        }
    }

    private void assign() {
        expect.part("4 NoSuchElementException if there is no such open job");
        fresh.refuse("no jobs at all", ELEMENT, service -> service.assign(0, 0));
        for (int job : NO_JOBS) {
            busy.refuse("job " + job, ELEMENT, service -> service.assign(job, 0));
            busy.refuse("job " + job + ", barrow 3", ELEMENT, service -> service.assign(job, 3));
            busy.refuse("job " + job + ", full barrow", ELEMENT, service -> service.assign(job, 1));
        }
        expect.part("4 IndexOutOfBoundsException if there is no such barrow");
        for (int barrow : NO_BARROWS) {
            busy.refuse("barrow " + barrow, INDEX, service -> service.assign(10, barrow));
            busy.refuse("assigned job, barrow " + barrow, INDEX, service -> service.assign(2, barrow));
        }
        expect.part("4 IllegalStateException if the job is assigned to this barrow");
        busy.refuse("one job", STATE, service -> service.assign(9, 2));
        busy.refuse("one of six jobs", STATE, service -> service.assign(7, 1));
        expect.part("4 IllegalStateException if the barrow has 6 assigned jobs");
        busy.refuse("a job of none", STATE, service -> service.assign(13, 1));
        busy.refuse("a job of another barrow", STATE, service -> service.assign(8, 1));
    }

    private void unassign() {
        expect.part("5 NoSuchElementException if there is no such open job");
        fresh.refuse("no jobs at all", ELEMENT, service -> service.unassign(0));
        for (int job : NO_JOBS) {
            busy.refuse("job " + job, ELEMENT, service -> service.unassign(job));
        }
        expect.part("5 IllegalStateException if it is not assigned");
        busy.refuse("job 10", STATE, service -> service.unassign(10));
        busy.refuse("job 13", STATE, service -> service.unassign(13));
    }

    // ---- promises 6 to 9

    private void addStock() {
        expect.part("6 IllegalArgumentException if the kind or the number is out of range");
        for (char kind : NO_KINDS) {
            fresh.refuse("kind " + (int) kind, ARGUMENT, service -> service.addStock(kind, 1));
            busy.refuse("kind " + (int) kind, ARGUMENT, service -> service.addStock(kind, 99));
        }
        for (int count : new int[] {0, 100, -1, LEAST, GREATEST}) {
            fresh.refuse("count " + count, ARGUMENT, service -> service.addStock('d', count));
            busy.refuse("count " + count + " to 99", ARGUMENT, service -> service.addStock('a', count));
        }
        expect.part("6 IllegalStateException if the stock would be greater than 99");
        busy.refuse("99 + 1", STATE, service -> service.addStock('a', 1));
        busy.refuse("99 + 99", STATE, service -> service.addStock('a', 99));
        busy.refuse("2 + 98", STATE, service -> service.addStock('b', 98));
        busy.refuse("3 + 97", STATE, service -> service.addStock('c', 97));
    }

    private void load() {
        expect.part("7 IndexOutOfBoundsException if there is no such barrow");
        for (int barrow : NO_BARROWS) {
            fresh.refuse("barrow " + barrow, INDEX, service -> service.load(barrow, 'a', 1));
            busy.refuse("barrow " + barrow, INDEX, service -> service.load(barrow, 'a', 1));
            busy.refuse("wrong kind and count, barrow " + barrow, INDEX, service -> service.load(barrow, 'e', 11));
        }
        expect.part("7 IllegalArgumentException if the kind or the number is out of range");
        for (char kind : NO_KINDS) {
            busy.refuse("kind " + (int) kind, ARGUMENT, service -> service.load(2, kind, 1));
            busy.refuse("away, kind " + (int) kind, ARGUMENT, service -> service.load(0, kind, 1));
        }
        for (int count : new int[] {0, 11, -1, LEAST, GREATEST}) {
            fresh.refuse("count " + count, ARGUMENT, service -> service.load(0, 'a', count));
            busy.refuse("count " + count, ARGUMENT, service -> service.load(2, 'a', count));
            busy.refuse("away, count " + count, ARGUMENT, service -> service.load(0, 'a', count));
            busy.refuse("full barrow, count " + count, ARGUMENT, service -> service.load(1, 'a', count));
        }
        expect.part("7 IllegalStateException if the barrow is not home");
        busy.refuse("away", STATE, service -> service.load(0, 'a', 1));
        busy.refuse("away, no stock", STATE, service -> service.load(0, 'd', 1));
        expect.part("7 IllegalStateException if it would contain more than 10 parts");
        busy.refuse("10 + 1", STATE, service -> service.load(1, 'a', 1));
        busy.refuse("10 + 10", STATE, service -> service.load(1, 'a', 10));
        busy.refuse("10 + 1, no stock", STATE, service -> service.load(1, 'd', 1));
        expect.part("7 UnsupportedOperationException if the stock of this kind is smaller");
        fresh.refuse("no stock of any kind", UNSUPPORTED, service -> service.load(0, 'a', 1));
        busy.refuse("0 - 1", UNSUPPORTED, service -> service.load(2, 'd', 1));
        busy.refuse("2 - 3", UNSUPPORTED, service -> service.load(2, 'b', 3));
        busy.refuse("3 - 4", UNSUPPORTED, service -> service.load(2, 'c', 4));
        busy.refuse("3 - 10", UNSUPPORTED, service -> service.load(2, 'c', 10));
    }

    private void borrow() {
        expect.part("8 IndexOutOfBoundsException if there is no such barrow or no such tool");
        for (int barrow : NO_BARROWS) {
            fresh.refuse("barrow " + barrow, INDEX, service -> service.borrow(barrow, 0));
            busy.refuse("barrow " + barrow, INDEX, service -> service.borrow(barrow, 5));
        }
        for (int tool : NO_TOOLS) {
            fresh.refuse("tool " + tool, INDEX, service -> service.borrow(0, tool));
            busy.refuse("away, tool " + tool, INDEX, service -> service.borrow(0, tool));
        }
        busy.refuse("neither", INDEX, service -> service.borrow(3, 6));
        expect.part("8 IllegalStateException if the barrow is not home");
        busy.refuse("away", STATE, service -> service.borrow(0, 5));
        expect.part("8 IllegalStateException if the tool is not in the shed");
        busy.refuse("in the barrow itself", STATE, service -> service.borrow(1, 2));
        busy.refuse("in another barrow", STATE, service -> service.borrow(2, 0));
    }

    private void giveBack() {
        expect.part("9 IndexOutOfBoundsException if there is no such barrow or no such tool");
        for (int barrow : NO_BARROWS) {
            fresh.refuse("barrow " + barrow, INDEX, service -> service.giveBack(barrow, 0));
            busy.refuse("barrow " + barrow, INDEX, service -> service.giveBack(barrow, 5));
        }
        for (int tool : NO_TOOLS) {
            fresh.refuse("tool " + tool, INDEX, service -> service.giveBack(0, tool));
            busy.refuse("away, tool " + tool, INDEX, service -> service.giveBack(0, tool));
        }
        busy.refuse("neither", INDEX, service -> service.giveBack(3, 6));
        expect.part("9 IllegalStateException if the barrow is not home");
        busy.refuse("away", STATE, service -> service.giveBack(0, 0));
        expect.part("9 IllegalStateException if the tool is not in this barrow");
        fresh.refuse("all in the shed", STATE, service -> service.giveBack(0, 0));
        busy.refuse("in the shed", STATE, service -> service.giveBack(1, 5));
        busy.refuse("in another barrow", STATE, service -> service.giveBack(2, 2));
    }

    // ---- promises 10 to 12

    private void repair() {
        expect.part("10 IndexOutOfBoundsException if there is no such barrow");
        for (int barrow : NO_BARROWS) {
            busy.refuse("barrow " + barrow, INDEX, service -> service.repair(barrow, 2));
            busy.refuse("no job, barrow " + barrow, INDEX, service -> service.repair(barrow, 14));
        }
        expect.part("10 NoSuchElementException if there is no such open job");
        fresh.refuse("no jobs at all", ELEMENT, service -> service.repair(0, 0));
        for (int job : NO_JOBS) {
            busy.refuse("job " + job, ELEMENT, service -> service.repair(0, job));
        }
        expect.part("10 IllegalStateException if the barrow does not have the tool");
        busy.refuse("in another barrow", STATE, service -> service.repair(0, 4));
        busy.refuse("in the shed, and no part", STATE, service -> service.repair(0, 5));
        busy.refuse("nothing at all", STATE, service -> service.repair(2, 2));
        expect.part("10 UnsupportedOperationException if the barrow does not have a part of the kind");
        busy.refuse("parts of another kind", UNSUPPORTED, service -> service.repair(0, 3));
        busy.refuse("ten parts of another kind", UNSUPPORTED, service -> service.repair(1, 4));
    }

    private void goHome() {
        expect.part("11 IndexOutOfBoundsException if there is no such barrow");
        for (int barrow : NO_BARROWS) {
            fresh.refuse("barrow " + barrow, INDEX, service -> service.goHome(barrow));
            busy.refuse("barrow " + barrow, INDEX, service -> service.goHome(barrow));
        }
    }

    private void rest() {
        expect.part("12 IndexOutOfBoundsException if there is no such barrow");
        for (int barrow : NO_BARROWS) {
            fresh.refuse("barrow " + barrow, INDEX, service -> service.rest(barrow, 1));
            busy.refuse("hours 0, barrow " + barrow, INDEX, service -> service.rest(barrow, 0));
            busy.refuse("hours 100, barrow " + barrow, INDEX, service -> service.rest(barrow, 100));
        }
        expect.part("12 IllegalArgumentException if the number of hours is out of range");
        for (int hours : new int[] {0, 100, -1, LEAST, GREATEST}) {
            fresh.refuse("hours " + hours, ARGUMENT, service -> service.rest(0, hours));
            busy.refuse("hours " + hours, ARGUMENT, service -> service.rest(2, hours));
        }
    }

    // ---- promises 15 to 34

    private void ofJobs() {
        expect.part("15 kind, 16 tool, 17 due, 31 fastestBarrow: NoSuchElementException");
        fresh.refuse("kind", ELEMENT, service -> service.kind(0));
        fresh.refuse("tool", ELEMENT, service -> service.tool(0));
        fresh.refuse("due", ELEMENT, service -> service.due(0));
        fresh.refuse("fastestBarrow", ELEMENT, service -> service.fastestBarrow(0));
        for (int job : NO_JOBS) {
            busy.refuse("kind(" + job + ")", ELEMENT, service -> service.kind(job));
            busy.refuse("tool(" + job + ")", ELEMENT, service -> service.tool(job));
            busy.refuse("due(" + job + ")", ELEMENT, service -> service.due(job));
            busy.refuse("fastestBarrow(" + job + ")", ELEMENT, service -> service.fastestBarrow(job));
        }
    }

    private void barrowOf() {
        expect.part("18 NoSuchElementException if there is no such open job, or it is not assigned");
        fresh.refuse("no jobs at all", ELEMENT, service -> service.barrowOf(0));
        for (int job : NO_JOBS) {
            busy.refuse("job " + job, ELEMENT, service -> service.barrowOf(job));
        }
        busy.refuse("not assigned", ELEMENT, service -> service.barrowOf(10));
        busy.refuse("not assigned, the last", ELEMENT, service -> service.barrowOf(13));
    }

    private void jobByDue() {
        expect.part("19 NoSuchElementException if there is no such rank");
        fresh.refuse("no jobs at all", ELEMENT, service -> service.jobByDue(0));
        for (int rank : new int[] {-1, 12, LEAST, GREATEST}) {
            busy.refuse("rank " + rank, ELEMENT, service -> service.jobByDue(rank));
        }
    }

    private void stockAndParts() {
        expect.part("20 stock, 21 parts: IllegalArgumentException if the character is not a kind");
        for (char kind : NO_KINDS) {
            busy.refuse("stock(" + (int) kind + ")", ARGUMENT, service -> service.stock(kind));
            busy.refuse("parts(1, " + (int) kind + ")", ARGUMENT, service -> service.parts(1, kind));
        }
        expect.part("21 IndexOutOfBoundsException if there is no such barrow");
        for (int barrow : NO_BARROWS) {
            busy.refuse("barrow " + barrow, INDEX, service -> service.parts(barrow, 'a'));
            busy.refuse("no kind, barrow " + barrow, INDEX, service -> service.parts(barrow, 'e'));
        }
    }

    private void holder() {
        expect.part("23 IndexOutOfBoundsException if there is no such tool");
        for (int tool : NO_TOOLS) {
            busy.refuse("tool " + tool, INDEX, service -> service.holder(tool));
        }
        expect.part("23 NoSuchElementException if the tool is in the shed");
        for (int tool = 0; tool < 6; tool++) {
            int asked = tool;
            fresh.refuse("tool " + tool, ELEMENT, service -> service.holder(asked));
        }
        busy.refuse("tool 3, others are borrowed", ELEMENT, service -> service.holder(3));
    }

    private void ofBarrows() {
        expect.part("22, 24 to 28, 32, 33, 35: IndexOutOfBoundsException if there is no such barrow");
        for (int barrow : NO_BARROWS) {
            busy.refuse("tools(" + barrow + ")", INDEX, service -> service.tools(barrow));
            busy.refuse("barrowX(" + barrow + ")", INDEX, service -> service.barrowX(barrow));
            busy.refuse("barrowY(" + barrow + ")", INDEX, service -> service.barrowY(barrow));
            busy.refuse("clock(" + barrow + ")", INDEX, service -> service.clock(barrow));
            busy.refuse("isHome(" + barrow + ")", INDEX, service -> service.isHome(barrow));
            busy.refuse("assigned(" + barrow + ")", INDEX, service -> service.assigned(barrow));
            busy.refuse("bestLateness(" + barrow + ")", INDEX, service -> service.bestLateness(barrow));
            busy.refuse("byOrders(" + barrow + ")", INDEX, service -> service.bestLatenessByOrders(barrow));
            busy.refuse("earnings(" + barrow + ")", INDEX, service -> service.earnings(barrow));
        }
    }

    private void canRepairAndFinish() {
        expect.part("29 canRepair, 30 finish: IndexOutOfBoundsException if there is no such barrow");
        for (int barrow : NO_BARROWS) {
            busy.refuse("canRepair(" + barrow + ", 2)", INDEX, service -> service.canRepair(barrow, 2));
            busy.refuse("canRepair(" + barrow + ", 14)", INDEX, service -> service.canRepair(barrow, 14));
            busy.refuse("finish(" + barrow + ", 2)", INDEX, service -> service.finish(barrow, 2));
            busy.refuse("finish(" + barrow + ", 14)", INDEX, service -> service.finish(barrow, 14));
        }
        expect.part("29 canRepair, 30 finish: NoSuchElementException if there is no such open job");
        for (int job : NO_JOBS) {
            busy.refuse("canRepair(0, " + job + ")", ELEMENT, service -> service.canRepair(0, job));
            busy.refuse("finish(0, " + job + ")", ELEMENT, service -> service.finish(0, job));
        }
    }

    private void planned() {
        expect.part("34 IndexOutOfBoundsException if there is no such barrow");
        for (int barrow : NO_BARROWS) {
            busy.refuse("barrow " + barrow, INDEX, service -> service.planned(barrow, 0));
            busy.refuse("no position, barrow " + barrow, INDEX, service -> service.planned(barrow, 6));
        }
        expect.part("34 NoSuchElementException if there is no such position");
        fresh.refuse("no plan", ELEMENT, service -> service.planned(0, 0));
        for (int position : new int[] {-1, 6, LEAST, GREATEST}) {
            busy.refuse("six jobs, position " + position, ELEMENT, service -> service.planned(1, position));
        }
        busy.refuse("one job, position 1", ELEMENT, service -> service.planned(2, 1));
        busy.refuse("one job, position -1", ELEMENT, service -> service.planned(2, -1));
    }

    // ---- promises 39 to 45

    private void meanLateness() {
        expect.part("39 ArithmeticException if no job was repaired");
        fresh.refuse("a new object", ArithmeticException.class, service -> service.meanLateness());
    }

    private void barrowByEarnings() {
        expect.part("41 NoSuchElementException if there is no such rank");
        for (int rank : new int[] {-1, 3, LEAST, GREATEST}) {
            fresh.refuse("rank " + rank, ELEMENT, service -> service.barrowByEarnings(rank));
            busy.refuse("rank " + rank, ELEMENT, service -> service.barrowByEarnings(rank));
        }
    }

    private void write() {
        expect.part("43 writeBarrow, 44 writePlan: IndexOutOfBoundsException if there is no such barrow");
        for (int barrow : NO_BARROWS) {
            fresh.refuse("writeBarrow(" + barrow + ")", INDEX, service -> service.writeBarrow(barrow));
            fresh.refuse("writePlan(" + barrow + ")", INDEX, service -> service.writePlan(barrow));
            busy.refuse("writeBarrow(" + barrow + ")", INDEX, service -> service.writeBarrow(barrow));
            busy.refuse("writePlan(" + barrow + ")", INDEX, service -> service.writePlan(barrow));
        }
    }

    private void charAt() {
        expect.part("45 IndexOutOfBoundsException if the index is negative or not less than the length");
        for (int index : new int[] {0, -1, LEAST, GREATEST}) {
            fresh.refuse("initially empty, index " + index, INDEX, service -> service.charAt(index));
        }
        // The line is "1@0,0+0 t2 b10".
        for (int index : new int[] {-1, 14, 15, LEAST, GREATEST}) {
            busy.refuse("index " + index, INDEX, service -> service.charAt(index));
        }
    }

    // ---- promises 46 to 49

    private void type() {
        expect.part("46 IllegalStateException if the buffer contains 60 characters");
        for (char character : new char[] {'0', ';', (char) 0, (char) 0xffff}) {
            full.refuse("type(" + (int) character + ")", STATE, service -> service.type(character));
        }
    }

    private void runOfNoProgram() {
        expect.part("47 IllegalArgumentException if the text is not a program");
        noProgram("", 0);
        noProgram("x", 0);
        noProgram("home 0;", 7);
        noProgram("home 0;rest 1 5;take 1000", 24);
        noProgram("take 99;rest 1 5;", 17);
        noProgram(Services.LONGEST.substring(0, 59) + "x", 59);
        noProgram(Services.LONGEST.substring(0, 59) + ";", 59);
        noProgram(Services.LONGEST.substring(0, 59) + " ", 59);
        noProgram("home 0;home 0;home 0;home 0;home 0;home 0;home 0;rest 2 123;", 60);
        fresh.refuseBut("empty, on a new object", ARGUMENT, service -> service.run(), "errorPosition()", 0);
    }

    private void noProgram(String text, int position) {
        quiet.refuseBut("'" + text + "'", ARGUMENT, service -> Text.run(service, text), "errorPosition()", position);
    }

    private void runOfFailingProgram() {
        expect.part("47 UnsupportedOperationException if a command fails");
        fresh.refuseBut("on a new object", UNSUPPORTED, service -> Text.run(service, "stock a9;take 0"),
                "failedCommand()", 1);
        failing("take 99", 0);
        failing("home 0;rest 1 5;stock a1", 2);
        failing("cancel 2;job 0,0 a0 1@1;give 14>0;take 14;take 14", 4);
        failing("fix 0 2;home 0;return 00;return 01;load 0a9;borrow 16", 5);
        failing("home 0;home 0;home 0;home 0;home 0;home 0;home 0;home 3", 7);
    }

    private void eachCommandFails() {
        expect.part("47 a command fails if the method for it throws an exception");
        String[] commands = {"job 0,0 a0 1@1", "job 21,0 a0 1@1", "job 0,21 a0 1@1", "job 0,0 a6 1@1",
            "job 0,0 a0 0@1", "job 0,0 a0 5@1", "job 0,0 a0 1@0", "job 0,0 a0 1@200", "cancel 0", "cancel 14",
            "give 0>0", "give 10>3", "give 10>1", "give 9>2", "take 1", "take 10", "stock d0", "stock d100",
            "stock a1", "load 3a1", "load 2a0", "load 2a11", "load 0a1", "load 1a1", "load 2d1", "borrow 30",
            "borrow 26", "borrow 05", "borrow 20", "return 30", "return 26", "return 00", "return 25", "fix 3 2",
            "fix 0 0", "fix 0 4", "fix 0 3", "home 3", "rest 3 1", "rest 0 0", "rest 0 100"};
        for (String command : commands) {
            failing(command, 0);
            failing("rest 0 99;" + command + ";rest 0 1", 1);
        }
    }

    private void failing(String text, int command) {
        quiet.refuseBut("'" + text + "'", UNSUPPORTED, service -> Text.run(service, text), "failedCommand()", command);
    }

    private void noRecord() {
        expect.part("48 errorPosition: NoSuchElementException if there was no such text");
        fresh.refuse("a new object", ELEMENT, service -> service.errorPosition());
        failedOnly.refuse("a command failed, but each text was a program", ELEMENT, service -> service.errorPosition());
        expect.part("49 failedCommand: NoSuchElementException if no command failed");
        fresh.refuse("a new object", ELEMENT, service -> service.failedCommand());
        wrongOnly.refuse("a text was no program, but no command failed", ELEMENT,
                service -> service.failedCommand());
    }

    private static RepairBarrows failedOnly() {
        RepairBarrows service = new RepairBarrows();
        Expect.outcome(() -> Text.run(service, "home 3"));
        Text.run(service, "home 0");
        return service;
    }

    private static RepairBarrows wrongOnly() {
        RepairBarrows service = new RepairBarrows();
        Expect.outcome(() -> Text.run(service, "home"));
        Text.run(service, "home 0");
        return service;
    }

    // ---- promises 50 and 52

    private void undo() {
        expect.part("50 IllegalStateException if no change can be undone");
        fresh.refuse("a new object", STATE, service -> service.undo());
        undone.refuse("all eight are undone", STATE, service -> service.undo());
        restored.refuse("after restore", STATE, service -> service.undo());
    }

    private static RepairBarrows undone() {
        RepairBarrows service = Services.quiet();
        for (int i = 0; i < 8; i++) {
            service.undo();
        }
        return service;
    }

    private static RepairBarrows restored() {
        RepairBarrows service = Services.quiet();
        service.restore();
        return service;
    }

    private void restore() {
        expect.part("52 IllegalStateException if no state was saved");
        fresh.refuse("a new object", STATE, service -> service.restore());
        unsaved.refuse("after changes", STATE, service -> service.restore());
    }
}
