import java.util.ArrayList;
import java.util.List;
import java.util.NoSuchElementException;

/** The promises 1 to 52, each with answers that were worked out by hand from the document. */
public final class PromisesTest {
    private static final Class<IllegalArgumentException> ARGUMENT = IllegalArgumentException.class;
    private static final Class<IllegalStateException> STATE = IllegalStateException.class;
    private static final Class<IndexOutOfBoundsException> INDEX = IndexOutOfBoundsException.class;
    private static final Class<NoSuchElementException> ELEMENT = NoSuchElementException.class;
    private static final Class<UnsupportedOperationException> UNSUPPORTED = UnsupportedOperationException.class;
    private static final int[] NO_BARROWS = {-1, 3, Integer.MIN_VALUE, Integer.MAX_VALUE};
    private static final int[] NO_TOOLS = {-1, 6, Integer.MIN_VALUE, Integer.MAX_VALUE};
    private static final char[] NO_KINDS = {'e', '`', 'A', 'D', '0', (char) 0, (char) 0x161, (char) 0xffff};

    private final Expect expect = new Expect();

    public static void main(String[] arguments) {
        PromisesTest test = new PromisesTest();
        test.objectJobsAndAssignments();
        test.partsAndTools();
        test.drivingAndRepairing();
        test.properties();
        test.plans();
        test.accounts();
        test.output();
        test.programs();
        test.undoAndSnapshots();
        test.expect.end();
    }

    private void objectJobsAndAssignments() {
        newObject();
        addJob();
        cancelJob();
        assign();
        unassign();
    }

    private void partsAndTools() {
        addStock();
        load();
        borrow();
        giveBack();
    }

    private void drivingAndRepairing() {
        repair();
        repairRefused();
        goHome();
        rest();
    }

    private void properties() {
        jobsAndIsOpen();
        kindToolDue();
        barrowOf();
        jobByDue();
        stock();
        parts();
        tools();
        holder();
        barrowPlaceAndClock();
        isHome();
        assigned();
        canRepair();
        finish();
        fastestBarrow();
    }

    private void plans() {
        bestLateness();
        planned();
        sixJobs();
        everyOrderOfSixJobs();
    }

    private void accounts() {
        earnings();
        repairedAndMeanLateness();
        borrowedShare();
        barrowByEarnings();
        isConsistent();
    }

    private void output() {
        writeBarrow();
        writePlan();
        charAt();
    }

    private void programs() {
        type();
        everyCommand();
        failedCommand();
        programIsOneChange();
        errorPositions();
        errorsBehindOldText();
        refusedCommands();
    }

    private void undoAndSnapshots() {
        undoEachChange();
        undoLimit();
        undoLeavesOut();
        undoAfterRefusal();
        saveAndRestore();
    }

    // ---- what the tests share

    /** A service whose barrow 0 has one part a, one part b, and the tools 0 and 1. */
    private static RepairBarrows equipped() {
        RepairBarrows service = Services.stocked();
        service.load(0, 'a', 1);
        service.load(0, 'b', 1);
        service.borrow(0, 0);
        service.borrow(0, 1);
        return service;
    }

    private static void addJobs(RepairBarrows service, int count) {
        for (int i = 0; i < count; i++) {
            service.addJob(i, 0, 'a', 0, 1, 100);
        }
    }

    // ---- promise 1

    private void newObject() {
        expect.part("1 a new object");
        RepairBarrows service = new RepairBarrows();
        expect.same("jobs()", 0, service.jobs());
        for (char kind = 'a'; kind <= 'd'; kind++) {
            expect.same("stock(" + kind + ")", 0, service.stock(kind));
        }
        for (int barrow = 0; barrow < 3; barrow++) {
            expect.same("writeBarrow", barrow + "@0,0+0", Text.barrow(service, barrow));
            expect.same("earnings", 0, service.earnings(barrow));
            expect.same("assigned", 0, service.assigned(barrow));
            expect.same("tools", 0, service.tools(barrow));
        }
        expect.same("repaired()", 0, service.repaired());
        expect.fails("undo()", STATE, service::undo);
        expect.fails("restore()", STATE, service::restore);
        expect.fails("errorPosition()", ELEMENT, service::errorPosition);
        expect.fails("failedCommand()", ELEMENT, service::failedCommand);
    }

    // ---- promise 2

    private void addJob() {
        expect.part("2 addJob");
        RepairBarrows service = new RepairBarrows();
        expect.same("first", 0, service.addJob(0, 0, 'a', 0, 1, 1));
        expect.same("second, the greatest", 1, service.addJob(20, 20, 'd', 5, 4, 199));
        expect.fails("x -1", ARGUMENT, () -> service.addJob(-1, 0, 'a', 0, 1, 1));
        expect.fails("x 21", ARGUMENT, () -> service.addJob(21, 0, 'a', 0, 1, 1));
        expect.fails("y -1", ARGUMENT, () -> service.addJob(0, -1, 'a', 0, 1, 1));
        expect.fails("y 21", ARGUMENT, () -> service.addJob(0, 21, 'a', 0, 1, 1));
        for (char kind : NO_KINDS) {
            expect.fails("kind " + (int) kind, ARGUMENT, () -> service.addJob(0, 0, kind, 0, 1, 1));
        }
        for (int tool : NO_TOOLS) {
            expect.fails("tool " + tool, ARGUMENT, () -> service.addJob(0, 0, 'a', tool, 1, 1));
        }
        expect.fails("work 0", ARGUMENT, () -> service.addJob(0, 0, 'a', 0, 0, 1));
        expect.fails("work 5", ARGUMENT, () -> service.addJob(0, 0, 'a', 0, 5, 1));
        expect.fails("due 0", ARGUMENT, () -> service.addJob(0, 0, 'a', 0, 1, 0));
        expect.fails("due 200", ARGUMENT, () -> service.addJob(0, 0, 'a', 0, 1, 200));
        expect.same("jobs() after wrong ones", 2, service.jobs());
        for (int i = 2; i < 12; i++) {
            expect.same("number " + i, i, service.addJob(1, 1, 'b', 2, 3, 4));
        }
        expect.fails("a 13th job", STATE, () -> service.addJob(1, 1, 'b', 2, 3, 4));
        expect.fails("a wrong 13th job", ARGUMENT, () -> service.addJob(1, 1, 'b', 2, 3, 0));
        service.cancelJob(11);
        expect.same("numbers are not used again", 12, service.addJob(1, 1, 'b', 2, 3, 4));
        service.assign(3, 1);
        service.cancelJob(3);
        service.addJob(1, 1, 'b', 2, 3, 4);
        expect.fails("a new job is assigned to none", ELEMENT, () -> service.barrowOf(13));
    }

    // ---- promise 3

    private void cancelJob() {
        expect.part("3 cancelJob");
        RepairBarrows service = new RepairBarrows();
        expect.fails("no job", ELEMENT, () -> service.cancelJob(0));
        addJobs(service, 3);
        service.assign(1, 2);
        expect.same("cancelJob(1)", 2, service.cancelJob(1));
        expect.same("isOpen(1)", false, service.isOpen(1));
        expect.same("isOpen(0)", true, service.isOpen(0));
        expect.same("isOpen(2)", true, service.isOpen(2));
        expect.same("assigned(2)", 0, service.assigned(2));
        expect.fails("again", ELEMENT, () -> service.cancelJob(1));
        expect.fails("3", ELEMENT, () -> service.cancelJob(3));
        expect.fails("-1", ELEMENT, () -> service.cancelJob(-1));
        expect.same("repaired()", 0, service.repaired());
        expect.same("cancelJob(0)", 1, service.cancelJob(0));
        expect.same("cancelJob(2)", 0, service.cancelJob(2));
    }

    // ---- promise 4

    private void assign() {
        expect.part("4 assign");
        RepairBarrows service = new RepairBarrows();
        addJobs(service, 8);
        for (int job = 0; job < 6; job++) {
            expect.same("assign " + job, job + 1, service.assign(job, 1));
        }
        expect.fails("a 7th job", STATE, () -> service.assign(6, 1));
        expect.fails("the same barrow", STATE, () -> service.assign(0, 1));
        expect.same("to another one", 1, service.assign(0, 2));
        expect.same("which ends the first", 5, service.assigned(1));
        expect.same("barrowOf(0)", 2, service.barrowOf(0));
        expect.fails("the same barrow again", STATE, () -> service.assign(0, 2));
        expect.same("room again", 6, service.assign(7, 1));
        for (int barrow : NO_BARROWS) {
            expect.fails("barrow " + barrow, INDEX, () -> service.assign(0, barrow));
            expect.fails("job 8, barrow " + barrow, ELEMENT, () -> service.assign(8, barrow));
        }
        expect.fails("job -1", ELEMENT, () -> service.assign(-1, 0));
    }

    // ---- promise 5

    private void unassign() {
        expect.part("5 unassign");
        RepairBarrows service = new RepairBarrows();
        addJobs(service, 2);
        service.assign(0, 2);
        service.assign(1, 0);
        expect.same("unassign(0)", 2, service.unassign(0));
        expect.same("assigned(2)", 0, service.assigned(2));
        expect.fails("barrowOf(0)", ELEMENT, () -> service.barrowOf(0));
        expect.fails("again", STATE, () -> service.unassign(0));
        expect.same("unassign(1)", 0, service.unassign(1));
        expect.fails("job 2", ELEMENT, () -> service.unassign(2));
        expect.fails("job -1", ELEMENT, () -> service.unassign(-1));
        expect.same("assign again", 1, service.assign(0, 2));
    }

    // ---- promise 6

    private void addStock() {
        expect.part("6 addStock");
        RepairBarrows service = new RepairBarrows();
        expect.same("addStock(b, 1)", 1, service.addStock('b', 1));
        expect.same("addStock(b, 98)", 99, service.addStock('b', 98));
        expect.fails("addStock(b, 1)", STATE, () -> service.addStock('b', 1));
        expect.same("addStock(a, 99)", 99, service.addStock('a', 99));
        expect.same("addStock(d, 3)", 3, service.addStock('d', 3));
        expect.fails("addStock(d, 97)", STATE, () -> service.addStock('d', 97));
        expect.same("addStock(d, 96)", 99, service.addStock('d', 96));
        for (int count : new int[] {0, -1, 100, Integer.MAX_VALUE, Integer.MIN_VALUE}) {
            expect.fails("count " + count, ARGUMENT, () -> service.addStock('a', count));
        }
        for (char kind : NO_KINDS) {
            expect.fails("kind " + (int) kind, ARGUMENT, () -> service.addStock(kind, 1));
        }
        expect.same("stock(c)", 0, service.stock('c'));
    }

    // ---- promise 7

    private void load() {
        expect.part("7 load");
        RepairBarrows service = new RepairBarrows();
        service.addStock('a', 12);
        service.addStock('c', 4);
        expect.same("load(0, a, 1)", 1, service.load(0, 'a', 1));
        expect.same("load(0, c, 3)", 4, service.load(0, 'c', 3));
        expect.same("stock(a)", 11, service.stock('a'));
        expect.same("stock(c)", 1, service.stock('c'));
        expect.same("parts(0, c)", 3, service.parts(0, 'c'));
        expect.fails("more than the stock", UNSUPPORTED, () -> service.load(0, 'c', 2));
        expect.fails("no stock at all", UNSUPPORTED, () -> service.load(0, 'b', 1));
        expect.fails("11 parts, and too small a stock", STATE, () -> service.load(0, 'b', 7));
        expect.same("10 parts", 10, service.load(0, 'a', 6));
        expect.fails("11 parts", STATE, () -> service.load(0, 'a', 1));
        expect.same("10 at once, by another barrow", 5, service.load(2, 'a', 5));
        expect.same("the stock is used up", 0, service.stock('a'));
        for (int count : new int[] {0, -1, 11, Integer.MAX_VALUE, Integer.MIN_VALUE}) {
            expect.fails("count " + count, ARGUMENT, () -> service.load(1, 'a', count));
        }
        for (char kind : NO_KINDS) {
            expect.fails("kind " + (int) kind, ARGUMENT, () -> service.load(1, kind, 1));
        }
        for (int barrow : NO_BARROWS) {
            expect.fails("barrow " + barrow, INDEX, () -> service.load(barrow, 'x', 0));
        }
        RepairBarrows away = equipped();
        away.addJob(0, 1, 'a', 0, 1, 9);
        away.repair(0, 0);
        expect.fails("away", STATE, () -> away.load(0, 'a', 1));
        expect.fails("away, wrong count", ARGUMENT, () -> away.load(0, 'a', 0));
        away.goHome(0);
        expect.same("home", 2, away.load(0, 'a', 1));
    }

    // ---- promise 8

    private void borrow() {
        expect.part("8 borrow");
        RepairBarrows service = new RepairBarrows();
        expect.same("borrow(0, 0)", 1, service.borrow(0, 0));
        expect.same("borrow(0, 5)", 2, service.borrow(0, 5));
        expect.same("borrow(2, 3)", 1, service.borrow(2, 3));
        expect.same("holder(5)", 0, service.holder(5));
        expect.fails("its own tool", STATE, () -> service.borrow(0, 5));
        expect.fails("the tool of another", STATE, () -> service.borrow(1, 5));
        for (int tool : NO_TOOLS) {
            expect.fails("tool " + tool, INDEX, () -> service.borrow(0, tool));
        }
        for (int barrow : NO_BARROWS) {
            expect.fails("barrow " + barrow, INDEX, () -> service.borrow(barrow, 0));
        }
        RepairBarrows away = equipped();
        away.addJob(1, 0, 'a', 0, 1, 9);
        away.repair(0, 0);
        expect.fails("away", STATE, () -> away.borrow(0, 2));
        expect.fails("away, no such tool", INDEX, () -> away.borrow(0, 6));
        expect.same("another barrow", 1, away.borrow(1, 2));
    }

    // ---- promise 9

    private void giveBack() {
        expect.part("9 giveBack");
        RepairBarrows service = new RepairBarrows();
        service.borrow(0, 0);
        service.borrow(0, 5);
        expect.fails("by another barrow", STATE, () -> service.giveBack(1, 0));
        expect.same("giveBack(0, 0)", 1, service.giveBack(0, 0));
        expect.fails("again", STATE, () -> service.giveBack(0, 0));
        expect.fails("holder(0)", ELEMENT, () -> service.holder(0));
        expect.same("borrowed by another one", 1, service.borrow(1, 0));
        expect.same("giveBack(0, 5)", 0, service.giveBack(0, 5));
        for (int tool : NO_TOOLS) {
            expect.fails("tool " + tool, INDEX, () -> service.giveBack(0, tool));
        }
        for (int barrow : NO_BARROWS) {
            expect.fails("barrow " + barrow, INDEX, () -> service.giveBack(barrow, 0));
        }
        RepairBarrows away = equipped();
        away.addJob(1, 0, 'a', 0, 1, 9);
        away.repair(0, 0);
        expect.fails("away", STATE, () -> away.giveBack(0, 0));
        away.goHome(0);
        expect.same("home", 1, away.giveBack(0, 0));
    }

    // ---- promise 10

    private void repair() {
        expect.part("10 repair");
        RepairBarrows service = equipped();
        service.addJob(3, 4, 'a', 0, 2, 9);
        service.addJob(1, 9, 'b', 1, 4, 17);
        service.addJob(5, 5, 'c', 2, 1, 50);
        service.assign(0, 0);
        service.assign(1, 2);
        expect.same("due hour met: 7 + 2", 0, service.repair(0, 0));
        expect.same("the part is used up, the tool stays", "0@3,4+9 t0 t1 b1", Text.barrow(service, 0));
        expect.same("isOpen(0)", false, service.isOpen(0));
        expect.same("assigned(0)", 0, service.assigned(0));
        expect.same("earnings", 20, service.earnings(0));
        expect.same("3 hours late: 9 + 7 + 4 - 17, assigned to another", 6, service.repair(0, 1));
        expect.same("barrow", "0@1,9+20 t0 t1", Text.barrow(service, 0));
        expect.same("earnings", 20 + 40 - 6, service.earnings(0));
        expect.same("assigned(2)", 0, service.assigned(2));
        expect.same("the stock is as it was", 49, service.stock('a'));
        expect.same("jobs()", 1, service.jobs());
        expect.same("isOpen(2)", true, service.isOpen(2));
        RepairBarrows atShed = equipped();
        atShed.addJob(0, 0, 'a', 0, 1, 1);
        expect.same("at the shed", 0, atShed.repair(0, 0));
        expect.same("one hour of work alone", 1, atShed.clock(0));
        expect.same("still home", true, atShed.isHome(0));
    }

    private void repairRefused() {
        expect.part("10 repair refused");
        RepairBarrows service = equipped();
        service.addJob(1, 1, 'a', 2, 1, 9);
        service.addJob(1, 1, 'c', 0, 1, 9);
        service.addJob(1, 1, 'c', 2, 1, 9);
        service.borrow(1, 2);
        expect.fails("the tool is in another barrow", STATE, () -> service.repair(0, 0));
        expect.fails("no part", UNSUPPORTED, () -> service.repair(0, 1));
        expect.fails("neither", STATE, () -> service.repair(0, 2));
        expect.fails("tool, but no part in this barrow", UNSUPPORTED, () -> service.repair(1, 0));
        expect.fails("no such job", ELEMENT, () -> service.repair(0, 3));
        expect.fails("job -1", ELEMENT, () -> service.repair(0, -1));
        for (int barrow : NO_BARROWS) {
            expect.fails("barrow " + barrow, INDEX, () -> service.repair(barrow, 3));
        }
        expect.same("nothing has changed", "0@0,0+0 t0 t1 a1 b1", Text.barrow(service, 0));
        expect.same("jobs()", 3, service.jobs());
        expect.same("repaired()", 0, service.repaired());
    }

    // ---- promises 11 and 12

    private void goHome() {
        expect.part("11 goHome");
        RepairBarrows service = equipped();
        service.addJob(3, 4, 'a', 0, 2, 9);
        service.repair(0, 0);
        expect.same("9 + 7", 16, service.goHome(0));
        expect.same("its parts and tools stay", "0@0,0+16 t0 t1 b1", Text.barrow(service, 0));
        expect.same("again", 16, service.goHome(0));
        expect.same("another barrow", 0, service.goHome(2));
        for (int barrow : NO_BARROWS) {
            expect.fails("barrow " + barrow, INDEX, () -> service.goHome(barrow));
        }
    }

    private void rest() {
        expect.part("12 rest");
        RepairBarrows service = new RepairBarrows();
        expect.same("rest(1, 1)", 1, service.rest(1, 1));
        expect.same("rest(1, 99)", 100, service.rest(1, 99));
        expect.same("every barrow has its own clock", 0, service.clock(0));
        for (int hours : new int[] {0, -1, 100, Integer.MAX_VALUE, Integer.MIN_VALUE}) {
            expect.fails("hours " + hours, ARGUMENT, () -> service.rest(1, hours));
        }
        for (int barrow : NO_BARROWS) {
            expect.fails("barrow " + barrow, INDEX, () -> service.rest(barrow, 0));
        }
        expect.same("clock(1)", 100, service.clock(1));
    }

    // ---- promises 13 to 19

    private void jobsAndIsOpen() {
        expect.part("13 jobs, 14 isOpen");
        RepairBarrows service = equipped();
        expect.same("isOpen(0)", false, service.isOpen(0));
        addJobs(service, 2);
        expect.same("jobs()", 2, service.jobs());
        expect.same("isOpen(1)", true, service.isOpen(1));
        expect.same("isOpen(2)", false, service.isOpen(2));
        expect.same("isOpen(-1)", false, service.isOpen(-1));
        expect.same("isOpen(least)", false, service.isOpen(Integer.MIN_VALUE));
        expect.same("isOpen(greatest)", false, service.isOpen(Integer.MAX_VALUE));
        service.repair(0, 0);
        expect.same("isOpen(0), repaired", false, service.isOpen(0));
        expect.same("jobs()", 1, service.jobs());
        service.cancelJob(1);
        expect.same("isOpen(1), cancelled", false, service.isOpen(1));
        expect.same("jobs()", 0, service.jobs());
    }

    private void kindToolDue() {
        expect.part("15 kind, 16 tool, 17 due");
        RepairBarrows service = new RepairBarrows();
        service.addJob(1, 2, 'a', 0, 3, 1);
        service.addJob(4, 5, 'd', 5, 1, 199);
        service.addJob(7, 8, 'c', 2, 4, 33);
        expect.same("kind(0)", 'a', service.kind(0));
        expect.same("kind(1)", 'd', service.kind(1));
        expect.same("kind(2)", 'c', service.kind(2));
        expect.same("tool(0)", 0, service.tool(0));
        expect.same("tool(1)", 5, service.tool(1));
        expect.same("due(0)", 1, service.due(0));
        expect.same("due(1)", 199, service.due(1));
        service.cancelJob(1);
        expect.same("kind(2) after a cancelled one", 'c', service.kind(2));
        expect.same("tool(2)", 2, service.tool(2));
        expect.same("due(2)", 33, service.due(2));
        for (int job : new int[] {1, 3, -1, Integer.MIN_VALUE, Integer.MAX_VALUE}) {
            expect.fails("kind(" + job + ")", ELEMENT, () -> service.kind(job));
            expect.fails("tool(" + job + ")", ELEMENT, () -> service.tool(job));
            expect.fails("due(" + job + ")", ELEMENT, () -> service.due(job));
        }
    }

    private void barrowOf() {
        expect.part("18 barrowOf");
        RepairBarrows service = new RepairBarrows();
        addJobs(service, 2);
        service.assign(0, 0);
        expect.same("barrowOf(0)", 0, service.barrowOf(0));
        service.assign(0, 2);
        expect.same("barrowOf(0)", 2, service.barrowOf(0));
        expect.fails("not assigned", ELEMENT, () -> service.barrowOf(1));
        expect.fails("no such job", ELEMENT, () -> service.barrowOf(2));
        expect.fails("job -1", ELEMENT, () -> service.barrowOf(-1));
    }

    private void jobByDue() {
        expect.part("19 jobByDue");
        RepairBarrows service = new RepairBarrows();
        expect.fails("no jobs", ELEMENT, () -> service.jobByDue(0));
        for (int due : new int[] {50, 7, 50, 199, 7, 1}) {
            service.addJob(0, 0, 'a', 0, 1, due);
        }
        int[] order = {5, 1, 4, 0, 2, 3};
        for (int rank = 0; rank < 6; rank++) {
            expect.same("jobByDue(" + rank + ")", order[rank], service.jobByDue(rank));
        }
        for (int rank : new int[] {-1, 6, Integer.MIN_VALUE, Integer.MAX_VALUE}) {
            expect.fails("rank " + rank, ELEMENT, () -> service.jobByDue(rank));
        }
        service.cancelJob(1);
        expect.same("jobByDue(1)", 4, service.jobByDue(1));
        expect.fails("rank 5", ELEMENT, () -> service.jobByDue(5));
    }

    // ---- promises 20 to 23

    private void stock() {
        expect.part("20 stock");
        RepairBarrows service = new RepairBarrows();
        service.addStock('a', 5);
        service.addStock('d', 9);
        service.load(0, 'd', 2);
        expect.same("stock(a)", 5, service.stock('a'));
        expect.same("stock(b)", 0, service.stock('b'));
        expect.same("stock(c)", 0, service.stock('c'));
        expect.same("stock(d)", 7, service.stock('d'));
        for (char kind : NO_KINDS) {
            expect.fails("kind " + (int) kind, ARGUMENT, () -> service.stock(kind));
        }
    }

    private void parts() {
        expect.part("21 parts");
        RepairBarrows service = Services.stocked();
        service.load(1, 'b', 2);
        service.load(1, 'd', 3);
        expect.same("parts(1, a)", 0, service.parts(1, 'a'));
        expect.same("parts(1, b)", 2, service.parts(1, 'b'));
        expect.same("parts(1, d)", 3, service.parts(1, 'd'));
        expect.same("parts(0, b)", 0, service.parts(0, 'b'));
        for (char kind : NO_KINDS) {
            expect.fails("kind " + (int) kind, ARGUMENT, () -> service.parts(2, kind));
        }
        for (int barrow : NO_BARROWS) {
            expect.fails("barrow " + barrow, INDEX, () -> service.parts(barrow, 'x'));
        }
    }

    private void tools() {
        expect.part("22 tools");
        RepairBarrows service = new RepairBarrows();
        for (int tool = 0; tool < 6; tool++) {
            service.borrow(2, tool);
            expect.same("tools(2)", tool + 1, service.tools(2));
        }
        expect.same("tools(0)", 0, service.tools(0));
        for (int barrow : NO_BARROWS) {
            expect.fails("barrow " + barrow, INDEX, () -> service.tools(barrow));
        }
    }

    private void holder() {
        expect.part("23 holder");
        RepairBarrows service = new RepairBarrows();
        service.borrow(0, 0);
        service.borrow(2, 5);
        expect.same("holder(0)", 0, service.holder(0));
        expect.same("holder(5)", 2, service.holder(5));
        expect.fails("in the shed", ELEMENT, () -> service.holder(1));
        for (int tool : NO_TOOLS) {
            expect.fails("tool " + tool, INDEX, () -> service.holder(tool));
        }
    }

    // ---- promises 24 to 31

    private void barrowPlaceAndClock() {
        expect.part("24 barrowX, 25 barrowY, 26 clock");
        RepairBarrows service = equipped();
        service.addJob(3, 14, 'a', 0, 2, 9);
        service.repair(0, 0);
        expect.same("barrowX(0)", 3, service.barrowX(0));
        expect.same("barrowY(0)", 14, service.barrowY(0));
        expect.same("clock(0)", 19, service.clock(0));
        expect.same("barrowX(1)", 0, service.barrowX(1));
        expect.same("barrowY(2)", 0, service.barrowY(2));
        expect.same("clock(2)", 0, service.clock(2));
        for (int barrow : NO_BARROWS) {
            expect.fails("barrowX " + barrow, INDEX, () -> service.barrowX(barrow));
            expect.fails("barrowY " + barrow, INDEX, () -> service.barrowY(barrow));
            expect.fails("clock " + barrow, INDEX, () -> service.clock(barrow));
        }
    }

    private void isHome() {
        expect.part("27 isHome");
        RepairBarrows service = equipped();
        expect.same("isHome(0)", true, service.isHome(0));
        service.addJob(0, 1, 'a', 0, 1, 9);
        service.addJob(1, 0, 'b', 0, 1, 9);
        service.repair(0, 0);
        expect.same("at 0,1", false, service.isHome(0));
        service.repair(0, 1);
        expect.same("at 1,0", false, service.isHome(0));
        expect.same("isHome(1)", true, service.isHome(1));
        service.goHome(0);
        expect.same("back", true, service.isHome(0));
        for (int barrow : NO_BARROWS) {
            expect.fails("barrow " + barrow, INDEX, () -> service.isHome(barrow));
        }
    }

    private void assigned() {
        expect.part("28 assigned");
        RepairBarrows service = equipped();
        addJobs(service, 4);
        service.assign(0, 1);
        service.assign(1, 1);
        service.assign(2, 0);
        expect.same("assigned(0)", 1, service.assigned(0));
        expect.same("assigned(1)", 2, service.assigned(1));
        expect.same("assigned(2)", 0, service.assigned(2));
        service.repair(0, 1);
        expect.same("assigned(1)", 1, service.assigned(1));
        for (int barrow : NO_BARROWS) {
            expect.fails("barrow " + barrow, INDEX, () -> service.assigned(barrow));
        }
    }

    private void canRepair() {
        expect.part("29 canRepair");
        RepairBarrows service = equipped();
        service.addJob(1, 1, 'a', 0, 1, 9);
        service.addJob(1, 1, 'a', 5, 1, 9);
        service.addJob(1, 1, 'd', 0, 1, 9);
        expect.same("both", true, service.canRepair(0, 0));
        expect.same("no tool", false, service.canRepair(0, 1));
        expect.same("no part", false, service.canRepair(0, 2));
        expect.same("neither", false, service.canRepair(1, 0));
        expect.fails("no such job", ELEMENT, () -> service.canRepair(0, 3));
        expect.fails("job -1", ELEMENT, () -> service.canRepair(0, -1));
        for (int barrow : NO_BARROWS) {
            expect.fails("barrow " + barrow, INDEX, () -> service.canRepair(barrow, 3));
        }
    }

    private void finish() {
        expect.part("30 finish");
        RepairBarrows service = equipped();
        service.addJob(10, 2, 'a', 0, 3, 9);
        service.addJob(4, 12, 'd', 5, 1, 9);
        expect.same("finish(0, 0)", 15, service.finish(0, 0));
        expect.same("without part and tool", 17, service.finish(0, 1));
        service.rest(2, 5);
        expect.same("finish(2, 1)", 22, service.finish(2, 1));
        service.repair(0, 0);
        expect.same("from 10,2 at 15", 15 + 6 + 10 + 1, service.finish(0, 1));
        expect.fails("no such job", ELEMENT, () -> service.finish(0, 0));
        for (int barrow : NO_BARROWS) {
            expect.fails("barrow " + barrow, INDEX, () -> service.finish(barrow, 0));
        }
    }

    private void fastestBarrow() {
        expect.part("31 fastestBarrow");
        RepairBarrows service = new RepairBarrows();
        service.addJob(1, 1, 'a', 0, 1, 9);
        expect.same("of several the smallest", 0, service.fastestBarrow(0));
        service.rest(0, 1);
        expect.same("two of them", 1, service.fastestBarrow(0));
        service.rest(1, 1);
        expect.same("the last", 2, service.fastestBarrow(0));
        service.rest(2, 2);
        expect.same("the first again", 0, service.fastestBarrow(0));
        RepairBarrows away = equipped();
        away.addJob(10, 10, 'a', 0, 1, 9);
        away.addJob(20, 20, 'd', 4, 1, 9);
        away.repair(0, 0);
        away.rest(1, 1);
        expect.same("21 + 20, against 1 + 40 and 40", 2, away.fastestBarrow(1));
        away.rest(2, 2);
        expect.same("21 + 20, against 1 + 40 and 42", 0, away.fastestBarrow(1));
        expect.fails("no such job", ELEMENT, () -> away.fastestBarrow(0));
        expect.fails("job -1", ELEMENT, () -> away.fastestBarrow(-1));
    }

    // ---- promises 32 to 34

    private void bestLateness() {
        expect.part("32 bestLateness, 33 bestLatenessByOrders");
        RepairBarrows service = new RepairBarrows();
        expect.same("no jobs", 0, service.bestLateness(0));
        expect.same("no jobs, by orders", 0, service.bestLatenessByOrders(0));
        service.addJob(3, 4, 'a', 0, 2, 9);
        service.addJob(0, 5, 'b', 1, 1, 6);
        service.addJob(3, 0, 'a', 0, 4, 9);
        service.assign(0, 1);
        expect.same("0 in time", 0, service.bestLateness(1));
        expect.same("0 in time, by orders", 0, service.bestLatenessByOrders(1));
        service.assign(1, 1);
        service.assign(2, 1);
        expect.same("1, 0, 2: 0 + 3 + 11", 14, service.bestLateness(1));
        expect.same("by orders", 14, service.bestLatenessByOrders(1));
        expect.same("another barrow", 0, service.bestLateness(0));
        service.rest(1, 10);
        expect.same("from now on", 14 + 10 + 10 + 10, service.bestLateness(1));
        expect.same("from now on, by orders", 44, service.bestLatenessByOrders(1));
        for (int barrow : NO_BARROWS) {
            expect.fails("barrow " + barrow, INDEX, () -> service.bestLateness(barrow));
            expect.fails("barrow " + barrow + ", by orders", INDEX, () -> service.bestLatenessByOrders(barrow));
        }
    }

    private void planned() {
        expect.part("34 planned");
        RepairBarrows service = new RepairBarrows();
        expect.fails("no jobs", ELEMENT, () -> service.planned(0, 0));
        service.addJob(3, 4, 'a', 0, 2, 9);
        service.addJob(0, 5, 'b', 1, 1, 6);
        service.addJob(3, 0, 'a', 0, 4, 9);
        for (int job = 2; job >= 0; job--) {
            service.assign(job, 1);
        }
        expect.same("planned(1, 0)", 1, service.planned(1, 0));
        expect.same("planned(1, 1)", 0, service.planned(1, 1));
        expect.same("planned(1, 2)", 2, service.planned(1, 2));
        for (int position : new int[] {-1, 3, 6, Integer.MIN_VALUE, Integer.MAX_VALUE}) {
            expect.fails("position " + position, ELEMENT, () -> service.planned(1, position));
        }
        for (int barrow : NO_BARROWS) {
            expect.fails("barrow " + barrow, INDEX, () -> service.planned(barrow, 9));
        }
        RepairBarrows equal = new RepairBarrows();
        for (int i = 0; i < 4; i++) {
            equal.addJob(5 - i, 5 - i, 'a', 0, 1, 199);
        }
        equal.cancelJob(1);
        for (int job : new int[] {3, 0, 2}) {
            equal.assign(job, 0);
        }
        expect.same("of equal ones the smallest numbers", "0:11>2:16>3:19", Text.plan(equal, 0));
        expect.same("planned(0, 1)", 2, equal.planned(0, 1));
    }

    private void sixJobs() {
        expect.part("32 to 34 with six jobs");
        RepairBarrows service = new RepairBarrows();
        int[] xs = {20, 10, 1, 15, 5, 2};
        int[] dues = {26, 14, 2, 20, 8, 4};
        for (int i = 0; i < 6; i++) {
            service.addJob(xs[i], 0, 'a', 0, 1, dues[i]);
            service.assign(i, 2);
        }
        // Along the street each job is in time to the hour, and any other order is late.
        expect.same("bestLateness", 0, service.bestLateness(2));
        expect.same("bestLatenessByOrders", 0, service.bestLatenessByOrders(2));
        expect.same("plan", "2:2>5:4>4:8>1:14>3:20>0:26", Text.plan(service, 2));
        expect.same("planned(2, 5)", 0, service.planned(2, 5));
        expect.fails("planned(2, 6)", ELEMENT, () -> service.planned(2, 6));
    }

    /** Each order of six jobs is once the only one in which all are in time. */
    private void everyOrderOfSixJobs() {
        expect.part("32 to 34, every order of six jobs");
        int[] order = new int[6];
        for (int code = 0; code < 720; code++) {
            int rest = code;
            List<Integer> left = new ArrayList<>(List.of(0, 1, 2, 3, 4, 5));
            for (int i = 0; i < 6; i++) {
                order[i] = left.remove(rest % (6 - i));
                rest /= 6 - i;
            }
            expectOnlyOrder(order);
        }
    }

    /** The jobs stand along the street in this order, each due when the barrow comes straight to it. */
    private void expectOnlyOrder(int[] order) {
        RepairBarrows service = new RepairBarrows();
        StringBuilder plan = new StringBuilder();
        int[] places = new int[6];
        for (int i = 0; i < 6; i++) {
            places[order[i]] = i + 1;
            plan.append(i > 0 ? ">" : "").append(order[i]).append(':').append(2 * (i + 1));
        }
        for (int job = 0; job < 6; job++) {
            service.addJob(places[job], 0, 'a', 0, 1, 2 * places[job]);
            service.assign(job, 1);
        }
        expect.same(plan + " bestLateness", 0, service.bestLateness(1));
        expect.same(plan + " bestLatenessByOrders", 0, service.bestLatenessByOrders(1));
        expect.same(plan + " planned", order[5], service.planned(1, 5));
        expect.same("plan", plan.toString(), Text.plan(service, 1));
    }

    // ---- promises 35 to 42

    /** Barrow 0 earned 20 with 0 hours late, barrow 1 earned 10 - 46 with 23 hours late. */
    private static RepairBarrows earned() {
        RepairBarrows service = Services.stocked();
        service.load(0, 'a', 1);
        service.borrow(0, 0);
        service.load(1, 'd', 1);
        service.borrow(1, 5);
        service.addJob(3, 4, 'a', 0, 2, 9);
        service.addJob(20, 4, 'd', 5, 1, 2);
        service.repair(0, 0);
        service.repair(1, 1);
        return service;
    }

    private void earnings() {
        expect.part("35 earnings, 36 totalEarnings, 37 totalEarningsByHours");
        RepairBarrows none = new RepairBarrows();
        expect.same("totalEarnings()", 0L, none.totalEarnings());
        expect.same("totalEarningsByHours()", 0L, none.totalEarningsByHours());
        RepairBarrows service = earned();
        expect.same("earnings(0)", 20, service.earnings(0));
        expect.same("earnings(1)", -36, service.earnings(1));
        expect.same("earnings(2)", 0, service.earnings(2));
        expect.same("totalEarnings()", -16L, service.totalEarnings());
        expect.same("totalEarningsByHours()", -16L, service.totalEarningsByHours());
        for (int barrow : NO_BARROWS) {
            expect.fails("barrow " + barrow, INDEX, () -> service.earnings(barrow));
        }
    }

    private void repairedAndMeanLateness() {
        expect.part("38 repaired, 39 meanLateness");
        RepairBarrows none = new RepairBarrows();
        expect.fails("meanLateness()", ArithmeticException.class, none::meanLateness);
        RepairBarrows service = earned();
        expect.same("repaired()", 2, service.repaired());
        expect.same("meanLateness()", 11.5, service.meanLateness());
        service.goHome(0);
        service.load(0, 'a', 1);
        service.addJob(0, 0, 'a', 0, 1, 100);
        service.repair(0, 2);
        expect.same("repaired()", 3, service.repaired());
        expect.same("meanLateness()", 23.0 / 3.0, service.meanLateness());
        service.addJob(0, 0, 'a', 0, 1, 100);
        service.cancelJob(3);
        expect.same("repaired() after a cancelled one", 3, service.repaired());
    }

    private void borrowedShare() {
        expect.part("40 borrowedShare");
        RepairBarrows service = new RepairBarrows();
        expect.same("borrowedShare()", 0f, service.borrowedShare());
        for (int tool = 0; tool < 6; tool++) {
            service.borrow(tool % 3, tool);
            expect.same("borrowedShare()", (float) (tool + 1) / 6f, service.borrowedShare());
        }
        service.giveBack(0, 0);
        expect.same("borrowedShare()", 5f / 6f, service.borrowedShare());
    }

    private void barrowByEarnings() {
        expect.part("41 barrowByEarnings");
        RepairBarrows service = new RepairBarrows();
        expectRanks(service, 0, 1, 2);
        service.rest(0, 1);
        expectRanks(service, 1, 2, 0);
        service.rest(1, 3);
        service.rest(2, 3);
        expectRanks(service, 0, 1, 2);
        expectRanks(earned(), 0, 2, 1);
        for (int rank : new int[] {-1, 3, Integer.MIN_VALUE, Integer.MAX_VALUE}) {
            expect.fails("rank " + rank, ELEMENT, () -> service.barrowByEarnings(rank));
        }
    }

    private void expectRanks(RepairBarrows service, int first, int second, int third) {
        expect.same("rank 0", first, service.barrowByEarnings(0));
        expect.same("rank 1", second, service.barrowByEarnings(1));
        expect.same("rank 2", third, service.barrowByEarnings(2));
    }

    private void isConsistent() {
        expect.part("42 isConsistent");
        expect.same("a new object", true, new RepairBarrows().isConsistent());
        RepairBarrows service = earned();
        expect.same("after repairs", true, service.isConsistent());
        addJobs(service, 12);
        for (int job = 2; job < 14; job++) {
            service.assign(job, job % 2);
        }
        service.goHome(0);
        service.load(0, 'a', 10);
        expect.same("with 10 parts and 6 jobs", true, service.isConsistent());
    }

    // ---- promises 43 to 45

    private void writeBarrow() {
        expect.part("43 writeBarrow");
        RepairBarrows service = Services.stocked();
        expect.same("the shortest line", 7, new RepairBarrows().writeBarrow(2));
        service.addJob(3, 0, 'b', 4, 1, 9);
        service.load(1, 'd', 1);
        service.load(1, 'a', 2);
        service.load(1, 'b', 1);
        service.borrow(1, 4);
        service.borrow(1, 0);
        service.borrow(0, 2);
        service.rest(1, 8);
        service.repair(1, 0);
        expect.same("the example", "1@3,0+12 t0 t4 a2 d1", Text.barrow(service, 1));
        expect.same("its length", 20, service.writeBarrow(1));
        expect.same("another one replaces it", "0@0,0+0 t2", Text.barrow(service, 0));
        service.load(2, 'c', 10);
        expect.same("two digits", "2@0,0+0 c10", Text.barrow(service, 2));
        for (int barrow : NO_BARROWS) {
            expect.fails("barrow " + barrow, INDEX, () -> service.writeBarrow(barrow));
        }
        expect.same("a refused call leaves the line", "2@0,0+0 c10", Text.line(service, 11));
    }

    private void writePlan() {
        expect.part("44 writePlan");
        RepairBarrows service = new RepairBarrows();
        expect.same("no jobs", 0, service.writePlan(0));
        for (int i = 0; i < 3; i++) {
            service.addJob(5, 5, 'a', 0, 2, 199);
        }
        service.cancelJob(1);
        service.addJob(5, 1, 'b', 1, 1, 7);
        service.assign(3, 0);
        service.assign(0, 0);
        expect.same("3 is due first", "3:7>0:13", Text.plan(service, 0));
        service.writeBarrow(0);
        expect.same("its length replaces the old one", 8, service.writePlan(0));
        expect.fails("behind it", INDEX, () -> service.charAt(8));
        for (int barrow : NO_BARROWS) {
            expect.fails("barrow " + barrow, INDEX, () -> service.writePlan(barrow));
        }
        expect.same("a refused call leaves the line", "3:7>0:13", Text.line(service, 8));
        expect.same("an empty plan empties the line", 0, service.writePlan(1));
        expect.fails("charAt(0)", INDEX, () -> service.charAt(0));
    }

    private void charAt() {
        expect.part("45 charAt");
        RepairBarrows service = new RepairBarrows();
        expect.fails("initially empty", INDEX, () -> service.charAt(0));
        service.writeBarrow(2);
        expect.same("charAt(0)", '2', service.charAt(0));
        expect.same("charAt(1)", '@', service.charAt(1));
        expect.same("charAt(6), the last", '0', service.charAt(6));
        for (int index : new int[] {-1, 7, Integer.MIN_VALUE, Integer.MAX_VALUE}) {
            expect.fails("index " + index, INDEX, () -> service.charAt(index));
        }
    }

    // ---- promises 46 to 49

    private void type() {
        expect.part("46 type");
        RepairBarrows service = new RepairBarrows();
        char[] odd = {(char) 0, (char) 0xffff, '\n', 'Z'};
        for (int i = 0; i < 60; i++) {
            expect.same("type", i + 1, service.type(odd[i % 4]));
        }
        expect.fails("a 61st character", STATE, () -> service.type('a'));
        expect.fails("run()", ARGUMENT, service::run);
        expect.same("empty again", 1, service.type('a'));
    }

    private void everyCommand() {
        expect.part("47 run");
        RepairBarrows service = new RepairBarrows();
        expect.same("jobs", 2, Text.run(service, "job 3,4 a0 2@9;job 20,020 d5 4@199"));
        expect.same("jobs()", 2, service.jobs());
        expect.same("kind(0)", 'a', service.kind(0));
        expect.same("tool(1)", 5, service.tool(1));
        expect.same("due(1)", 199, service.due(1));
        expect.same("finish(0, 1)", 44, service.finish(0, 1));
        expect.same("finish(0, 0)", 9, service.finish(0, 0));
        expect.same("stock, load, borrow", 5,
                Text.run(service, "stock a5;stock d99;load 1a2;load 1d003;borrow 10"));
        expect.same("stock(a)", 3, service.stock('a'));
        expect.same("barrow", "1@0,0+0 t0 a2 d3", Text.barrow(service, 1));
        expect.same("give, take", 3, Text.run(service, "give 0>2;give 1>0;take 1"));
        expect.same("barrowOf(0)", 2, service.barrowOf(0));
        expect.fails("barrowOf(1)", ELEMENT, () -> service.barrowOf(1));
        expect.same("fix, rest, cancel", 3, Text.run(service, "fix 1 0;rest 1 11;cancel 1"));
        expect.same("barrow", "1@3,4+20 t0 a1 d3", Text.barrow(service, 1));
        expect.same("jobs()", 0, service.jobs());
        expect.same("home, return", 2, Text.run(service, "home 1;return 10"));
        expect.same("barrow", "1@0,0+27 a1 d3", Text.barrow(service, 1));
        expect.same("eight commands", 8,
                Text.run(service, "home 0;home 0;home 0;home 0;home 0;home 0;home 0;rest 0 12"));
        expect.same("clock(0)", 12, service.clock(0));
        expect.fails("no error was recorded", ELEMENT, service::errorPosition);
        expect.fails("no failure was recorded", ELEMENT, service::failedCommand);
    }

    private void failedCommand() {
        expect.part("47 run, 49 failedCommand");
        RepairBarrows service = new RepairBarrows();
        service.rest(0, 1);
        expect.fails("the second fails", UNSUPPORTED, () -> Text.run(service, "rest 0 5;borrow 06;rest 0 6"));
        expect.same("failedCommand()", 1, service.failedCommand());
        expect.same("none is executed", 1, service.clock(0));
        expect.same("the buffer is empty", 1, service.type('h'));
        expect.same("and goes on", 1, Text.run(service, "ome 0"));
        expect.same("the record stays", 1, service.failedCommand());
        expect.fails("the first fails", UNSUPPORTED, () -> Text.run(service, "take 0"));
        expect.same("failedCommand()", 0, service.failedCommand());
        expect.fails("the eighth fails", UNSUPPORTED,
                () -> Text.run(service, "home 0;home 0;home 0;home 0;home 0;home 0;home 0;home 3"));
        expect.same("failedCommand()", 7, service.failedCommand());
        expect.fails("a syntax error", ARGUMENT, () -> Text.run(service, "homes"));
        expect.same("leaves failedCommand()", 7, service.failedCommand());
        expect.same("errorPosition()", 4, service.errorPosition());
    }

    private void programIsOneChange() {
        expect.part("47 run, 50 undo");
        RepairBarrows service = new RepairBarrows();
        service.addStock('a', 1);
        Text.run(service, "stock a5;stock b6;rest 2 7");
        expect.fails("a failed program is no change", UNSUPPORTED, () -> Text.run(service, "stock a5;stock a99"));
        expect.same("stock(a)", 6, service.stock('a'));
        expect.same("undo()", 1, service.undo());
        expect.same("stock(a)", 1, service.stock('a'));
        expect.same("stock(b)", 0, service.stock('b'));
        expect.same("clock(2)", 0, service.clock(2));
        expect.same("undo()", 0, service.undo());
        expect.same("stock(a)", 0, service.stock('a'));
    }

    private void errorPositions() {
        expect.part("47 run, 48 errorPosition");
        expectError("", 0);
        expectError("x", 0);
        expectError(";", 0);
        expectError(" home 0", 0);
        expectError("re", 2);
        expectError("rex", 2);
        expectError("res", 3);
        expectError("ret 0", 3);
        expectError("rest0 1", 4);
        expectError("home", 4);
        expectError("home ", 5);
        expectError("home a", 5);
        expectError("home 00", 6);
        expectError("home 0;", 7);
        expectError("home 0; home 0", 7);
        expectError("home 0,", 6);
        expectError("take 1234", 8);
        expectError("take 12 ", 7);
        expectError("cancel -1", 7);
        expectError("give 0>", 7);
        expectError("give 0 1", 6);
        expectError("give 000>x", 9);
        expectError("stock e1", 6);
        expectError("stock a", 7);
        expectError("stock aa", 7);
        expectError("stock " + (char) 0x161 + "1", 6);
        expectError("load 0", 6);
        expectError("load 0a", 7);
        expectError("load 00", 6);
        expectError("borrow 0", 8);
        expectError("borrow 0 0", 8);
        expectError("return 0a", 8);
        expectError("fix 0", 5);
        expectError("fix 00", 5);
        expectError("fix 0 a", 6);
        expectError("rest 0 1234", 10);
        expectError("job 1,2 a0 1@9x", 14);
        expectError("job 1,2 a0 1@", 13);
        expectError("job 1,2 a0 12", 12);
        expectError("job 1,2 a00", 10);
        expectError("job 1,2 e", 8);
        expectError("job 1,2  ", 8);
        expectError("job 1,2a", 7);
        expectError("job 1 2", 5);
        expectError("home 0;home 0;home 0;home 0;home 0;home 0;home 0;home 0;", 56);
        expectError("home 0;home 0;home 0;home 0;home 0;home 0;home 0;home 0;take", 60);
        expectError("home 0;home 0;home 0;home 0;home 0;home 0;home 0;home 0;tak0", 59);
    }

    /** What was typed before must not count, nor may a full buffer be read beyond its end. */
    private void errorsBehindOldText() {
        expect.part("47 run, 48 errorPosition, old text");
        for (String command : new String[] {"stock a1", "home 0", "rest 0 1", "job 1,2 a0 1@9"}) {
            RepairBarrows service = new RepairBarrows();
            Text.run(service, command);
            for (int length = 0; length < command.length(); length++) {
                String beginning = command.substring(0, length);
                expect.fails("'" + beginning + "'", ARGUMENT, () -> Text.run(service, beginning));
                expect.same("'" + beginning + "' errorPosition()", length, service.errorPosition());
                Expect.outcome(() -> Text.run(service, command));
            }
        }
        String full = "rest 0 1;rest 0 1;rest 0 1;rest 0 1;rest 0 1;rest 0 1;";
        RepairBarrows service = new RepairBarrows();
        for (String end : new String[] {"stock ", "load 0", "take 1", "rest 0", "fix 0 ", "job 1,"}) {
            int due = end.equals("take 1") ? 54 : 60;
            expect.fails("full, " + end, due == 60 ? ARGUMENT : UNSUPPORTED, () -> Text.run(service, full + end));
            expect.same("full, " + end, due == 60, due == service.errorPosition());
        }
    }

    private void expectError(String text, int position) {
        RepairBarrows service = new RepairBarrows();
        service.rest(0, 1);
        expect.fails("'" + text + "'", ARGUMENT, () -> Text.run(service, text));
        expect.same("'" + text + "' errorPosition()", position, service.errorPosition());
        expect.fails("'" + text + "' failedCommand()", ELEMENT, service::failedCommand);
        expect.same("clock(0)", 1, service.clock(0));
        expect.same("the record stays", 1, Text.run(service, "home 0"));
        expect.same("errorPosition()", position, service.errorPosition());
        expect.same("no change but rest and home", 1, service.undo());
    }

    /** Every command of the grammar once with what its method refuses. */
    private void refusedCommands() {
        expect.part("49 failedCommand");
        String[] refused = {"job 21,0 a0 1@1", "job 0,21 a0 1@1", "job 0,0 a6 1@1", "job 0,0 a0 0@1",
            "job 0,0 a0 5@1", "job 0,0 a0 1@0", "job 0,0 a0 1@200", "cancel 0", "give 0>0", "take 999",
            "stock a0", "stock d100", "load 0a1", "load 3a1", "load 0b11", "load 0b0", "borrow 30", "borrow 09",
            "return 00", "return 90", "fix 0 0", "fix 9 0", "home 9", "rest 0 0", "rest 0 100", "rest 3 1"};
        for (String command : refused) {
            RepairBarrows service = new RepairBarrows();
            expect.fails(command, UNSUPPORTED, () -> Text.run(service, "rest 0 9;" + command));
            expect.same(command + ": failedCommand()", 1, service.failedCommand());
            expect.same(command + ": clock(0)", 0, service.clock(0));
            expect.fails(command + ": undo()", STATE, service::undo);
        }
    }

    // ---- promises 50 to 52

    private void undoEachChange() {
        expect.part("50 undo");
        RepairBarrows service = Services.stocked();
        service.save();
        service.restore();
        service.addJob(1, 1, 'a', 0, 1, 9);
        service.assign(0, 2);
        service.load(0, 'a', 3);
        service.borrow(0, 0);
        service.repair(0, 0);
        service.goHome(0);
        service.giveBack(0, 0);
        expect.same("before", "0@0,0+5 a2", Text.barrow(service, 0));
        expect.same("giveBack", 6, service.undo());
        expect.same("the tool is back", 0, service.holder(0));
        expect.same("goHome", 5, service.undo());
        expect.same("away", "0@1,1+3 t0 a2", Text.barrow(service, 0));
        expect.same("repaired()", 1, service.repaired());
        expect.same("repair", 4, service.undo());
        expect.same("home", "0@0,0+0 t0 a3", Text.barrow(service, 0));
        expect.same("repaired()", 0, service.repaired());
        expect.same("earnings(0)", 0, service.earnings(0));
        expect.same("totalEarningsByHours()", 0L, service.totalEarningsByHours());
        expect.same("barrowOf(0)", 2, service.barrowOf(0));
        expect.same("borrow", 3, service.undo());
        expect.same("load", 2, service.undo());
        expect.same("stock(a)", 50, service.stock('a'));
        expect.same("assign", 1, service.undo());
        expect.same("assigned(2)", 0, service.assigned(2));
        expect.same("addJob", 0, service.undo());
        expect.same("isOpen(0)", false, service.isOpen(0));
        expect.fails("no more", STATE, service::undo);
        expect.same("the number is new again", 0, service.addJob(2, 2, 'b', 1, 1, 9));
        service.assign(0, 1);
        service.unassign(0);
        service.cancelJob(0);
        service.addStock('a', 1);
        service.rest(1, 1);
        expect.same("rest", 5, service.undo());
        expect.same("clock(1)", 0, service.clock(1));
        expect.same("addStock", 4, service.undo());
        expect.same("stock(a)", 50, service.stock('a'));
        expect.same("cancelJob", 3, service.undo());
        expect.same("isOpen(0)", true, service.isOpen(0));
        expect.same("unassign", 2, service.undo());
        expect.same("barrowOf(0)", 1, service.barrowOf(0));
    }

    private void undoLimit() {
        expect.part("50 undo, the 8 latest");
        RepairBarrows service = new RepairBarrows();
        for (int i = 1; i <= 8; i++) {
            service.rest(0, 1);
        }
        expect.same("8 can be undone", 7, service.undo());
        service.rest(0, 1);
        for (int i = 0; i < 12; i++) {
            service.rest(0, 1);
        }
        for (int left = 7; left >= 0; left--) {
            expect.same("undo()", left, service.undo());
            expect.same("clock(0)", 12 + left, service.clock(0));
        }
        expect.fails("a 9th", STATE, service::undo);
        expect.same("clock(0)", 12, service.clock(0));
        service.goHome(0);
        expect.same("a change that changes nothing is one", 0, service.undo());
        for (int i = 0; i < 10; i++) {
            service.rest(0, 1);
        }
        service.undo();
        service.undo();
        service.undo();
        service.rest(0, 50);
        expect.same("5 left and a new one", 5, service.undo());
        expect.same("clock(0)", 19, service.clock(0));
    }

    private void undoLeavesOut() {
        expect.part("50 undo, what it leaves out");
        RepairBarrows service = new RepairBarrows();
        service.rest(2, 5);
        service.writeBarrow(2);
        expect.fails("a syntax error", ARGUMENT, () -> Text.run(service, "job x"));
        expect.fails("a failure", UNSUPPORTED, () -> Text.run(service, "home 0;home 7"));
        Text.type(service, "rest 1");
        service.undo();
        expect.same("the line stays", "2@0,0+5", Text.line(service, 7));
        expect.same("errorPosition()", 4, service.errorPosition());
        expect.same("failedCommand()", 1, service.failedCommand());
        expect.same("the buffer stays", 1, Text.run(service, " 9"));
        expect.same("clock(1)", 9, service.clock(1));
    }

    private void undoAfterRefusal() {
        expect.part("50 undo, refused calls are no changes");
        RepairBarrows service = new RepairBarrows();
        for (int i = 0; i < 9; i++) {
            service.rest(0, 1);
        }
        Expect.outcome(() -> service.addJob(0, 0, 'e', 0, 1, 1));
        Expect.outcome(() -> service.cancelJob(0));
        Expect.outcome(() -> service.assign(0, 0));
        Expect.outcome(() -> service.unassign(0));
        Expect.outcome(() -> service.addStock('a', 0));
        Expect.outcome(() -> service.load(0, 'a', 1));
        Expect.outcome(() -> service.borrow(0, 6));
        Expect.outcome(() -> service.giveBack(0, 0));
        Expect.outcome(() -> service.repair(0, 0));
        Expect.outcome(() -> service.goHome(3));
        Expect.outcome(() -> service.rest(0, 0));
        Expect.outcome(() -> Text.run(service, "home 9"));
        Expect.outcome(() -> Text.run(service, "home"));
        service.save();
        for (int left = 7; left >= 0; left--) {
            expect.same("undo()", left, service.undo());
        }
        expect.same("clock(0)", 1, service.clock(0));
    }

    private void saveAndRestore() {
        expect.part("51 save, 52 restore");
        RepairBarrows service = equipped();
        expect.fails("nothing saved", STATE, service::restore);
        service.addJob(1, 1, 'a', 0, 1, 9);
        service.addJob(2, 2, 'b', 1, 1, 9);
        service.assign(1, 1);
        expect.same("save()", 2, service.save());
        service.repair(0, 0);
        service.cancelJob(1);
        service.addJob(3, 3, 'c', 3, 3, 33);
        service.writeBarrow(0);
        Text.type(service, "rest 2");
        expect.same("restore()", 2, service.restore());
        expect.fails("no change can be undone", STATE, service::undo);
        expect.same("the line stays", "0@1,1+3 t0 t1 b1", Text.line(service, 16));
        expect.same("the buffer stays", 1, Text.run(service, " 4"));
        expect.same("clock(2)", 4, service.clock(2));
        expect.same("barrow", "0@0,0+0 t0 t1 a1 b1", Text.barrow(service, 0));
        expect.same("barrowOf(1)", 1, service.barrowOf(1));
        expect.same("repaired()", 0, service.repaired());
        expect.same("totalEarningsByHours()", 0L, service.totalEarningsByHours());
        expect.same("the next number", 2, service.addJob(3, 3, 'c', 3, 3, 33));
        expect.same("changes since then", 1, service.undo());
        service.cancelJob(0);
        expect.same("it stays saved", 2, service.restore());
        expect.same("isOpen(0)", true, service.isOpen(0));
        service.cancelJob(0);
        expect.same("save() in place of it", 1, service.save());
        expect.same("undo after save", 0, service.undo());
        expect.same("undone", 2, service.jobs());
        expect.same("restore()", 1, service.restore());
        expect.same("isOpen(0)", false, service.isOpen(0));
    }
}
