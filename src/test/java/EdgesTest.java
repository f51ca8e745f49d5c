import java.util.NoSuchElementException;

/**
 * Every sentence of "Terms" and of the promises 1 to 45 that names a boundary: the last values that are
 * allowed on each side, the first ones beyond them, and the answers at the edges. What is refused is in
 * RefusedCallsTest, with the state that must stay.
 */
public final class EdgesTest {
    private static final Class<IllegalStateException> STATE = IllegalStateException.class;
    private static final Class<IndexOutOfBoundsException> INDEX = IndexOutOfBoundsException.class;
    private static final Class<NoSuchElementException> ELEMENT = NoSuchElementException.class;
    private static final Class<UnsupportedOperationException> UNSUPPORTED = UnsupportedOperationException.class;

    private final Expect expect = new Expect();

    public static void main(String[] arguments) {
        EdgesTest test = new EdgesTest();
        test.terms();
        test.jobs();
        test.partsAndTools();
        test.drivingAndRepairing();
        test.plans();
        test.accounts();
        test.output();
        test.expect.end();
    }

    private void terms() {
        calls();
        places();
        distances();
        clocks();
        home();
        partOfRepair();
    }

    private void jobs() {
        jobArguments();
        twelveJobs();
        numbers();
        newJobIsNotAssigned();
        closedJobs();
        cancelToNone();
        sixAssigned();
        assignToAnother();
        unassign();
        jobByDue();
    }

    private void partsAndTools() {
        stock();
        load();
        loadWholeStock();
        tenParts();
        tools();
        anyTools();
    }

    private void drivingAndRepairing() {
        lateness();
        payAndFee();
        repairWhoever();
        goHome();
        rest();
        canRepair();
        finish();
        fastestBarrow();
    }

    private void plans() {
        planOfNone();
        planOfOne();
        planOfSix();
        eachPlanByItself();
        equalPlans();
        equalTails();
        planWithoutParts();
        planWithoutShed();
        planFromNowOn();
    }

    private void accounts() {
        totals();
        meanLateness();
        borrowedShare();
        barrowByEarnings();
        isConsistent();
    }

    private void output() {
        writeBarrow();
        writeBarrowReplaces();
        writePlan();
        charAt();
    }

    // ---- Terms

    private void calls() {
        expect.part("An object is used for at most 512 calls");
        RepairBarrows service = new RepairBarrows();
        for (int call = 1; call <= 511; call++) {
            expect.same("rest " + call, 99 * call, service.rest(0, 99));
        }
        expect.same("the 512th call", 99 * 511, service.clock(0));
        RepairBarrows many = new RepairBarrows();
        for (int job = 0; job < 256; job++) {
            expect.same("addJob " + job, job, many.addJob(0, 0, 'a', 0, 1, 1));
            expect.same("cancelJob " + job, 0, many.cancelJob(job));
        }
    }

    private void places() {
        expect.part("x and y, each from 0 to 20; the shed is at x 0 and y 0");
        for (int[] place : new int[][] {{0, 0}, {20, 0}, {0, 20}, {20, 20}, {19, 1}}) {
            RepairBarrows service = Services.at(place[0], place[1]);
            String name = place[0] + "," + place[1];
            expect.same(name + " barrowX", place[0], service.barrowX(0));
            expect.same(name + " barrowY", place[1], service.barrowY(0));
            expect.same(name + " clock", place[0] + place[1] + 1, service.clock(0));
            expect.same(name + " goHome", 2 * (place[0] + place[1]) + 1, service.goHome(0));
            expect.same(name + " home at x", 0, service.barrowX(0));
            expect.same(name + " home at y", 0, service.barrowY(0));
        }
    }

    private void distances() {
        expect.part("The distance of two places");
        RepairBarrows service = Services.at(10, 10);
        int[][] places = {{10, 10}, {7, 6}, {13, 14}, {7, 14}, {13, 6}, {10, 11}, {9, 10}, {20, 20}, {0, 0}, {0, 20}};
        int[] distances = {0, 7, 7, 7, 7, 1, 1, 20, 20, 20};
        for (int i = 0; i < places.length; i++) {
            int job = service.addJob(places[i][0], places[i][1], 'b', 1, 1, 1);
            expect.same("to " + places[i][0] + "," + places[i][1], 21 + distances[i] + 1, service.finish(0, job));
        }
    }

    private void clocks() {
        expect.part("Every barrow has its own clock, initially 0");
        RepairBarrows service = new RepairBarrows();
        int[] hours = {1, 99, 50};
        for (int barrow = 0; barrow < 3; barrow++) {
            expect.same("initially", 0, service.clock(barrow));
            expect.same("rest", hours[barrow], service.rest(barrow, hours[barrow]));
        }
        for (int barrow = 0; barrow < 3; barrow++) {
            expect.same("clock(" + barrow + ")", hours[barrow], service.clock(barrow));
        }
    }

    private void home() {
        expect.part("A barrow is home if it is at the place of the shed");
        expect.same("0,0 without goHome", true, Services.at(0, 0).isHome(0));
        expect.same("0,0 without goHome: it can load", 10, Services.at(0, 0).load(0, 'b', 1));
        expect.same("0,0 without goHome: it can borrow", 2, Services.at(0, 0).borrow(0, 5));
        for (int[] place : new int[][] {{0, 1}, {1, 0}, {0, 20}, {20, 0}, {20, 20}}) {
            RepairBarrows service = Services.at(place[0], place[1]);
            expect.same(place[0] + "," + place[1], false, service.isHome(0));
            expect.same("another barrow stays", true, service.isHome(1));
            service.goHome(0);
            expect.same("home again", true, service.isHome(0));
        }
        for (int barrow = 0; barrow < 3; barrow++) {
            expect.same("initially", true, new RepairBarrows().isHome(barrow));
        }
    }

    private void partOfRepair() {
        expect.part("The part is used up, and the tool stays in the barrow");
        RepairBarrows service = Services.stocked();
        service.borrow(1, 0);
        service.load(1, 'a', 1);
        service.load(1, 'b', 1);
        service.addJob(0, 0, 'a', 0, 1, 1);
        service.addJob(0, 0, 'a', 0, 1, 1);
        expect.same("the last part", 0, service.repair(1, 0));
        expect.same("parts(1, a)", 0, service.parts(1, 'a'));
        expect.same("parts(1, b)", 1, service.parts(1, 'b'));
        expect.same("stock(a)", 49, service.stock('a'));
        expect.same("holder(0)", 1, service.holder(0));
        expect.fails("no part is left", UNSUPPORTED, () -> service.repair(1, 1));
        service.load(1, 'a', 1);
        expect.same("with a new one", 2, service.repair(1, 1));
    }

    // ---- promises 2 to 5, 13 to 19

    private void jobArguments() {
        expect.part("2 addJob: kind a to d, tool 0 to 5, work 1 to 4, due 1 to 199");
        for (char kind = 'a'; kind <= 'd'; kind++) {
            RepairBarrows service = new RepairBarrows();
            service.addJob(0, 0, kind, 0, 1, 1);
            expect.same("kind", kind, service.kind(0));
        }
        for (int tool = 0; tool <= 5; tool++) {
            RepairBarrows service = new RepairBarrows();
            service.addJob(0, 0, 'a', tool, 1, 1);
            expect.same("tool", tool, service.tool(0));
        }
        for (int work = 1; work <= 4; work++) {
            RepairBarrows service = new RepairBarrows();
            service.addJob(20, 20, 'a', 0, work, 1);
            expect.same("work", 40 + work, service.finish(0, 0));
        }
        for (int due : new int[] {1, 2, 198, 199}) {
            RepairBarrows service = new RepairBarrows();
            service.addJob(0, 0, 'a', 0, 1, due);
            expect.same("due", due, service.due(0));
        }
    }

    private void twelveJobs() {
        expect.part("There are at most 12 open jobs");
        RepairBarrows service = Services.equipped();
        for (int job = 0; job < 12; job++) {
            expect.same("addJob", job, service.addJob(0, 0, 'a', 0, 1, 199));
            expect.same("jobs()", job + 1, service.jobs());
        }
        expect.fails("a 13th", STATE, () -> service.addJob(0, 0, 'a', 0, 1, 199));
        service.cancelJob(5);
        expect.same("after a cancelled one", 12, service.addJob(0, 0, 'a', 0, 1, 199));
        expect.fails("a 13th again", STATE, () -> service.addJob(0, 0, 'a', 0, 1, 199));
        service.repair(0, 12);
        expect.same("after a repaired one", 13, service.addJob(0, 0, 'a', 0, 1, 199));
        expect.same("jobs()", 12, service.jobs());
        for (int job = 0; job < 14; job++) {
            expect.same("isOpen(" + job + ")", job != 5 && job != 12, service.isOpen(job));
        }
    }

    private void numbers() {
        expect.part("the numbers are consecutive, begin with 0, and are not used again");
        RepairBarrows service = Services.equipped();
        expect.same("the first", 0, service.addJob(1, 1, 'a', 0, 1, 9));
        service.cancelJob(0);
        expect.same("after the only one was cancelled", 1, service.addJob(1, 1, 'a', 0, 1, 9));
        service.repair(0, 1);
        expect.same("after it was repaired", 2, service.addJob(1, 1, 'a', 0, 1, 9));
        expect.fails("a wrong one", IllegalArgumentException.class, () -> service.addJob(1, 1, 'a', 0, 1, 0));
        expect.same("has no number", 3, service.addJob(1, 1, 'a', 0, 1, 9));
        expect.fails("a failed program", UNSUPPORTED, () -> Text.run(service, "job 1,1 a0 1@9;home 3"));
        expect.same("has none", 4, service.addJob(1, 1, 'a', 0, 1, 9));
        expect.same("a program", 1, Text.run(service, "job 1,1 a0 1@9"));
        expect.same("has one", 6, service.addJob(1, 1, 'a', 0, 1, 9));
        expect.same("isOpen(5)", true, service.isOpen(5));
    }

    private void newJobIsNotAssigned() {
        expect.part("a new job is assigned to none");
        RepairBarrows service = new RepairBarrows();
        for (int job = 0; job < 4; job++) {
            int added = service.addJob(1, 1, 'a', 0, 1, 9);
            expect.fails("job " + added, ELEMENT, () -> service.barrowOf(added));
            service.assign(added, job % 3);
            service.cancelJob(added);
        }
        for (int barrow = 0; barrow < 3; barrow++) {
            expect.same("assigned(" + barrow + ")", 0, service.assigned(barrow));
        }
    }

    private void closedJobs() {
        expect.part("A job that is repaired or cancelled is not open any more");
        RepairBarrows service = Services.equipped();
        for (int job = 0; job < 4; job++) {
            service.addJob(job, 0, 'a', 0, 1, 10 + job);
            service.assign(job, 2);
        }
        service.repair(0, 1);
        service.cancelJob(3);
        expect.same("jobs()", 2, service.jobs());
        expect.same("assigned(2)", 2, service.assigned(2));
        expect.same("plan", "0:1>2:4", Text.plan(service, 2));
        expect.same("jobByDue(0)", 0, service.jobByDue(0));
        expect.same("jobByDue(1)", 2, service.jobByDue(1));
        for (int closed : new int[] {1, 3}) {
            expect.same("isOpen", false, service.isOpen(closed));
            expect.fails("assign", ELEMENT, () -> service.assign(closed, 0));
            expect.fails("unassign", ELEMENT, () -> service.unassign(closed));
            expect.fails("repair", ELEMENT, () -> service.repair(0, closed));
            expect.fails("cancelJob", ELEMENT, () -> service.cancelJob(closed));
        }
    }

    private void cancelToNone() {
        expect.part("3 cancelJob: the number of open jobs afterwards");
        RepairBarrows service = new RepairBarrows();
        for (int job = 0; job < 12; job++) {
            service.addJob(job, 0, 'a', 0, 1, 9);
        }
        int left = 11;
        for (int job : new int[] {0, 11, 5, 6, 1, 10, 2, 9, 3, 8, 4, 7}) {
            expect.same("cancelJob(" + job + ")", left, service.cancelJob(job));
            left--;
        }
        expect.same("jobs()", 0, service.jobs());
    }

    private void sixAssigned() {
        expect.part("at most 6 assigned jobs in a barrow");
        RepairBarrows service = Services.equipped();
        for (int job = 0; job < 12; job++) {
            service.addJob(0, 0, 'a', 0, 1, 199);
        }
        for (int barrow = 0; barrow < 2; barrow++) {
            for (int i = 0; i < 6; i++) {
                expect.same("assign", i + 1, service.assign(6 * barrow + i, barrow));
                expect.same("assigned", i + 1, service.assigned(barrow));
            }
        }
        expect.fails("a 7th, of another barrow", STATE, () -> service.assign(6, 0));
        expect.same("it stays there", 1, service.barrowOf(6));
        service.repair(0, 7);
        expect.same("room after a repaired one", 6, service.assign(0, 1));
        service.cancelJob(0);
        expect.same("room after a cancelled one", 6, service.assign(1, 1));
        service.unassign(1);
        expect.same("room after an unassigned one", 6, service.assign(2, 1));
        service.assign(2, 2);
        expect.same("room after one went to another barrow", 6, service.assign(3, 1));
        expect.fails("full again", STATE, () -> service.assign(1, 1));
    }

    private void assignToAnother() {
        expect.part("4 assign: if it is assigned to another one, this ends");
        RepairBarrows service = new RepairBarrows();
        service.addJob(0, 0, 'a', 0, 1, 199);
        service.addJob(0, 0, 'a', 0, 1, 199);
        service.assign(1, 0);
        for (int barrow : new int[] {0, 1, 2, 0}) {
            expect.same("assign(0, " + barrow + ")", barrow == 0 ? 2 : 1, service.assign(0, barrow));
            expect.same("barrowOf(0)", barrow, service.barrowOf(0));
            for (int other = 0; other < 3; other++) {
                int due = (other == barrow ? 1 : 0) + (other == 0 ? 1 : 0);
                expect.same("assigned(" + other + ")", due, service.assigned(other));
            }
        }
    }

    private void unassign() {
        expect.part("5 unassign: the barrow to which it was assigned");
        RepairBarrows service = new RepairBarrows();
        service.addJob(0, 0, 'a', 0, 1, 199);
        for (int barrow = 0; barrow < 3; barrow++) {
            service.assign(0, barrow);
            expect.same("unassign", barrow, service.unassign(0));
            expect.same("assigned", 0, service.assigned(barrow));
            expect.same("still open", true, service.isOpen(0));
            expect.fails("again", STATE, () -> service.unassign(0));
        }
    }

    private void jobByDue() {
        expect.part("19 jobByDue: by due hours, then by numbers");
        RepairBarrows service = new RepairBarrows();
        int[] dues = {199, 1, 7, 199, 1, 7, 2, 198, 7, 1, 100, 199};
        for (int due : dues) {
            service.addJob(0, 0, 'a', 0, 1, due);
        }
        int[] order = {1, 4, 9, 6, 2, 5, 8, 10, 7, 0, 3, 11};
        for (int rank = 0; rank < 12; rank++) {
            expect.same("jobByDue(" + rank + ")", order[rank], service.jobByDue(rank));
        }
        for (int job = 0; job < 11; job++) {
            service.cancelJob(job);
        }
        expect.same("the only one", 11, service.jobByDue(0));
        expect.fails("rank 1 of one", ELEMENT, () -> service.jobByDue(1));
        service.cancelJob(11);
        expect.fails("rank 0 of none", ELEMENT, () -> service.jobByDue(0));
    }

    // ---- promises 6 to 9, 20 to 23

    private void stock() {
        expect.part("The shed has a stock of each kind, from 0 to 99 parts, initially 0");
        RepairBarrows service = new RepairBarrows();
        for (char kind = 'a'; kind <= 'd'; kind++) {
            expect.same("initially", 0, service.stock(kind));
            expect.same("1", 1, service.addStock(kind, 1));
            expect.same("1 + 97", 98, service.addStock(kind, 97));
            char full = kind;
            expect.fails("98 + 2", STATE, () -> service.addStock(full, 2));
            expect.same("98 + 1", 99, service.addStock(kind, 1));
            expect.fails("99 + 1", STATE, () -> service.addStock(full, 1));
            expect.same("stock", 99, service.stock(kind));
        }
        RepairBarrows other = new RepairBarrows();
        expect.same("0 + 99", 99, other.addStock('d', 99));
        expect.same("another kind", 0, other.stock('c'));
    }

    private void load() {
        expect.part("7 load: 1 to 10 parts");
        for (int count : new int[] {1, 2, 9, 10}) {
            for (char kind = 'a'; kind <= 'd'; kind++) {
                RepairBarrows service = Services.stocked();
                expect.same("load " + count, count, service.load(2, kind, count));
                expect.same("parts", count, service.parts(2, kind));
                expect.same("stock", 50 - count, service.stock(kind));
                expect.same("another barrow", 0, service.parts(1, kind));
            }
        }
    }

    private void loadWholeStock() {
        expect.part("7 load: the stock of this kind may be used up");
        RepairBarrows service = new RepairBarrows();
        service.addStock('b', 3);
        service.addStock('c', 9);
        expect.fails("one more than the stock", UNSUPPORTED, () -> service.load(1, 'b', 4));
        expect.same("the whole stock", 3, service.load(1, 'b', 3));
        expect.same("stock(b)", 0, service.stock('b'));
        expect.fails("nothing is left", UNSUPPORTED, () -> service.load(1, 'b', 1));
        expect.same("of another kind", 4, service.load(1, 'c', 1));
        expect.same("filled again", 1, service.addStock('b', 1));
        expect.same("loaded again", 5, service.load(1, 'b', 1));
    }

    private void tenParts() {
        expect.part("contains at most 10 parts, of all kinds together");
        RepairBarrows service = Services.stocked();
        expect.same("4", 4, service.load(0, 'a', 4));
        expect.same("4 + 3", 7, service.load(0, 'b', 3));
        expect.same("7 + 2", 9, service.load(0, 'c', 2));
        expect.fails("9 + 2", STATE, () -> service.load(0, 'd', 2));
        expect.same("9 + 1", 10, service.load(0, 'd', 1));
        expect.fails("10 + 1 of a new kind", STATE, () -> service.load(0, 'a', 1));
        expect.same("another barrow", 10, service.load(1, 'a', 10));
        expect.same("parts(0, a)", 4, service.parts(0, 'a'));
        expect.same("parts(0, d)", 1, service.parts(0, 'd'));
        service.borrow(0, 0);
        service.repair(0, service.addJob(0, 0, 'd', 0, 1, 199));
        expect.same("room after a repair", 10, service.load(0, 'a', 1));
    }

    private void tools() {
        expect.part("There are the tools 0 to 5, in the shed, as initially, or in one barrow");
        for (int tool = 0; tool < 6; tool++) {
            RepairBarrows service = new RepairBarrows();
            int asked = tool;
            for (int barrow = 0; barrow < 3; barrow++) {
                int borrower = barrow;
                expect.fails("in the shed", ELEMENT, () -> service.holder(asked));
                expect.same("borrow", 1, service.borrow(barrow, tool));
                expect.same("holder", barrow, service.holder(tool));
                expect.fails("in one barrow alone", STATE, () -> service.borrow((borrower + 1) % 3, asked));
                expect.same("giveBack", 0, service.giveBack(barrow, tool));
            }
        }
    }

    private void anyTools() {
        expect.part("contains any tools");
        for (int barrow = 0; barrow < 3; barrow++) {
            RepairBarrows service = new RepairBarrows();
            expect.same("none", 0, service.tools(barrow));
            for (int tool = 0; tool < 6; tool++) {
                expect.same("borrow", tool + 1, service.borrow(barrow, tool));
                expect.same("tools", tool + 1, service.tools(barrow));
            }
            for (int tool = 0; tool < 6; tool++) {
                expect.same("giveBack", 5 - tool, service.giveBack(barrow, tool));
                expect.same("tools", 5 - tool, service.tools(barrow));
            }
        }
    }

    // ---- promises 10 to 12, 29 to 31

    private void lateness() {
        expect.part("The lateness is its finish minus its due hour, or 0 if this is negative");
        for (int late : new int[] {-189, -2, -1, 0, 1, 2, 9}) {
            RepairBarrows service = Services.equipped();
            service.addJob(3, 4, 'a', 0, 3, 10 - late);
            service.assign(0, 0);
            int due = Math.max(0, late);
            expect.same("bestLateness, " + late, due, service.bestLateness(0));
            expect.same("bestLatenessByOrders, " + late, due, service.bestLatenessByOrders(0));
            expect.same("late fee, " + late, 2 * due, service.repair(0, 0));
            expect.same("clock, " + late, 10, service.clock(0));
            expect.same("meanLateness, " + late, (double) due, service.meanLateness());
        }
    }

    private void payAndFee() {
        expect.part("The pay is 10 coins for each hour of work, the late fee 2; earnings can become negative");
        for (int work = 1; work <= 4; work++) {
            for (int late = 0; late <= 21; late++) {
                RepairBarrows service = Services.equipped();
                service.rest(0, 30);
                service.addJob(0, 0, 'a', 0, work, 30 + work - late);
                expect.same("late fee", 2 * late, service.repair(0, 0));
                expect.same("earnings", 10 * work - 2 * late, service.earnings(0));
                expect.same("totalEarnings()", (long) (10 * work - 2 * late), service.totalEarnings());
                expect.same("byHours", (long) (10 * work - 2 * late), service.totalEarningsByHours());
            }
        }
    }

    private void repairWhoever() {
        expect.part("10 repair: assigned to it, to another barrow, or to none");
        for (int barrow = -1; barrow < 3; barrow++) {
            RepairBarrows service = Services.equipped();
            service.addJob(2, 2, 'a', 0, 1, 199);
            if (barrow >= 0) {
                service.assign(0, barrow);
            }
            expect.same("repair, of " + barrow, 0, service.repair(0, 0));
            expect.same("earnings(0)", 10, service.earnings(0));
            for (int other = 0; other < 3; other++) {
                expect.same("assigned", 0, service.assigned(other));
            }
        }
    }

    private void goHome() {
        expect.part("11 goHome: by the distance; its parts and tools stay in it");
        RepairBarrows service = Services.at(20, 20);
        expect.same("from 20,20", 81, service.goHome(0));
        expect.same("from the shed", 81, service.goHome(0));
        expect.same("barrow", "0@0,0+81 t0 a9", Text.barrow(service, 0));
        expect.same("the others", 0, service.goHome(1));
        expect.same("from 0,0", 1, Services.at(0, 0).goHome(0));
        expect.same("from 0,1", 3, Services.at(0, 1).goHome(0));
        expect.same("from 1,0", 3, Services.at(1, 0).goHome(0));
    }

    private void rest() {
        expect.part("12 rest: 1 to 99 hours");
        for (int barrow = 0; barrow < 3; barrow++) {
            RepairBarrows service = new RepairBarrows();
            expect.same("1", 1, service.rest(barrow, 1));
            expect.same("1 + 99", 100, service.rest(barrow, 99));
            expect.same("100 + 98", 198, service.rest(barrow, 98));
            expect.same("clock", 198, service.clock(barrow));
        }
        RepairBarrows away = Services.at(3, 4);
        away.rest(0, 2);
        expect.same("it rests where it is", "0@3,4+10 t0 a9", Text.barrow(away, 0));
    }

    private void canRepair() {
        expect.part("29 canRepair: the tool and a part of the kind");
        RepairBarrows service = Services.stocked();
        service.addJob(20, 20, 'c', 4, 4, 1);
        expect.same("neither", false, service.canRepair(1, 0));
        service.borrow(1, 4);
        expect.same("the tool", false, service.canRepair(1, 0));
        service.load(1, 'c', 1);
        expect.same("both", true, service.canRepair(1, 0));
        expect.same("another barrow", false, service.canRepair(2, 0));
        service.assign(0, 2);
        expect.same("assigned to another", true, service.canRepair(1, 0));
        service.giveBack(1, 4);
        expect.same("the part", false, service.canRepair(1, 0));
        service.borrow(2, 4);
        expect.same("tool and part in two barrows", false, service.canRepair(1, 0) || service.canRepair(2, 0));
    }

    private void finish() {
        expect.part("30 finish: if a barrow repaired it next");
        RepairBarrows service = Services.at(20, 0);
        service.addJob(0, 20, 'd', 5, 4, 1);
        service.addJob(20, 0, 'd', 5, 1, 1);
        expect.same("the farthest", 21 + 40 + 4, service.finish(0, 1));
        expect.same("at its place", 21 + 0 + 1, service.finish(0, 2));
        expect.same("another barrow", 20 + 4, service.finish(2, 1));
        expect.same("nothing has moved", 21, service.clock(0));
    }

    private void fastestBarrow() {
        expect.part("31 fastestBarrow: the earliest, and of several the one with the smallest number");
        int[][] rests = {{1, 1, 1}, {2, 1, 1}, {2, 2, 1}, {1, 2, 1}, {1, 1, 2}, {3, 1, 2}, {3, 2, 1}, {2, 1, 3}};
        int[] fastest = {0, 1, 2, 0, 0, 1, 2, 1};
        for (int i = 0; i < rests.length; i++) {
            RepairBarrows service = new RepairBarrows();
            service.addJob(20, 20, 'd', 5, 4, 1);
            for (int barrow = 0; barrow < 3; barrow++) {
                service.rest(barrow, rests[i][barrow]);
            }
            expect.same("rests " + i, fastest[i], service.fastestBarrow(0));
        }
    }

    // ---- promises 32 to 34

    private void planOfNone() {
        expect.part("32, 33: 0 without assigned jobs");
        RepairBarrows service = new RepairBarrows();
        service.addJob(20, 20, 'a', 0, 4, 1);
        for (int barrow = 0; barrow < 3; barrow++) {
            int asked = barrow;
            service.rest(barrow, 99);
            expect.same("bestLateness", 0, service.bestLateness(barrow));
            expect.same("bestLatenessByOrders", 0, service.bestLatenessByOrders(barrow));
            expect.fails("planned", ELEMENT, () -> service.planned(asked, 0));
        }
        service.assign(0, 1);
        service.unassign(0);
        expect.same("none any more", 0, service.bestLateness(1));
        expect.same("none any more, by orders", 0, service.bestLatenessByOrders(1));
    }

    private void planOfOne() {
        expect.part("32 to 34 with one job");
        RepairBarrows service = new RepairBarrows();
        service.addJob(20, 20, 'a', 0, 4, 1);
        service.assign(0, 2);
        expect.same("bestLateness", 43, service.bestLateness(2));
        expect.same("bestLatenessByOrders", 43, service.bestLatenessByOrders(2));
        expect.same("planned(2, 0)", 0, service.planned(2, 0));
        expect.fails("planned(2, 1)", ELEMENT, () -> service.planned(2, 1));
        expect.same("another barrow", 0, service.bestLateness(1));
    }

    private void planOfSix() {
        expect.part("32 to 34 with six jobs");
        RepairBarrows service = new RepairBarrows();
        for (int job = 0; job < 6; job++) {
            service.addJob(0, 0, 'a', 0, 1, 6 - job);
        }
        for (int job : new int[] {3, 1, 5, 0, 2, 4}) {
            service.assign(job, 0);
        }
        expect.same("bestLateness", 0, service.bestLateness(0));
        expect.same("bestLatenessByOrders", 0, service.bestLatenessByOrders(0));
        for (int position = 0; position < 6; position++) {
            expect.same("planned", 5 - position, service.planned(0, position));
        }
        expect.fails("planned(0, 6)", ELEMENT, () -> service.planned(0, 6));
        expect.fails("planned(0, -1)", ELEMENT, () -> service.planned(0, -1));
        service.rest(0, 1);
        expect.same("an hour later", 6, service.bestLateness(0));
        expect.same("an hour later, by orders", 6, service.bestLatenessByOrders(0));
    }

    /** Each question about plans is asked first once, for what an earlier one left must not count. */
    private void eachPlanByItself() {
        expect.part("32 to 34, 44: each by itself");
        for (int first = 0; first < 4; first++) {
            RepairBarrows service = new RepairBarrows();
            for (int job = 0; job < 5; job++) {
                service.addJob(job, 0, 'a', 0, 1, job + 1);
                service.assign(job, job < 3 ? 1 : 2);
            }
            for (int i = 0; i < 8; i++) {
                expectPlan(service, (first + i) % 4, 1 + i % 2);
            }
        }
    }

    private void expectPlan(RepairBarrows service, int question, int barrow) {
        if (question == 0) {
            expect.same("bestLateness", barrow == 1 ? 3 : 1, service.bestLateness(barrow));
        } else if (question == 1) {
            expect.same("bestLatenessByOrders", barrow == 1 ? 3 : 1, service.bestLatenessByOrders(barrow));
        } else if (question == 2) {
            expect.same("planned", barrow == 1 ? 2 : 4, service.planned(barrow, barrow == 1 ? 2 : 1));
        } else {
            expect.same("plan", barrow == 1 ? "0:1>1:3>2:5" : "3:4>4:6", Text.plan(service, barrow));
        }
    }

    private void equalPlans() {
        expect.part("The best plan: of several, the one whose first job has the smallest number");
        for (int count = 2; count <= 6; count++) {
            for (int due : new int[] {1, 199}) {
                RepairBarrows service = new RepairBarrows();
                for (int job = 0; job < count; job++) {
                    service.addJob(5, 5, 'a', 0, 2, due);
                }
                for (int job = count - 1; job >= 0; job--) {
                    service.assign(job, 1);
                }
                for (int position = 0; position < count; position++) {
                    expect.same("of " + count, position, service.planned(1, position));
                }
            }
        }
    }

    private void equalTails() {
        expect.part("The best plan: or, if the first jobs are the same, whose second job has the smallest number");
        for (int first = 0; first < 4; first++) {
            RepairBarrows service = new RepairBarrows();
            for (int job = 0; job < 4; job++) {
                service.addJob(2, 2, 'a', 0, 1, job == first ? 5 : 50);
            }
            for (int job = 3; job >= 0; job--) {
                service.assign(job, 1);
            }
            StringBuilder due = new StringBuilder(first + ":5");
            int finish = 5;
            for (int job = 0; job < 4; job++) {
                if (job != first) {
                    finish++;
                    due.append('>').append(job).append(':').append(finish);
                }
            }
            expect.same("first " + first, due.toString(), Text.plan(service, 1));
        }
    }

    private void planWithoutParts() {
        expect.part("parts and tools do not matter");
        RepairBarrows service = new RepairBarrows();
        service.addJob(1, 0, 'a', 0, 1, 2);
        service.addJob(2, 0, 'b', 1, 1, 4);
        service.assign(0, 0);
        service.assign(1, 0);
        service.borrow(1, 0);
        service.borrow(0, 1);
        service.addStock('b', 1);
        service.load(0, 'b', 1);
        expect.same("plan", "0:2>1:4", Text.plan(service, 0));
        expect.same("bestLateness", 0, service.bestLateness(0));
    }

    private void planWithoutShed() {
        expect.part("without driving to the shed between them");
        RepairBarrows service = new RepairBarrows();
        service.addJob(20, 20, 'a', 0, 1, 1);
        service.addJob(20, 20, 'a', 0, 1, 1);
        service.assign(0, 0);
        service.assign(1, 0);
        expect.same("plan", "0:41>1:42", Text.plan(service, 0));
        expect.same("bestLateness", 81, service.bestLateness(0));
        expect.same("bestLatenessByOrders", 81, service.bestLatenessByOrders(0));
    }

    private void planFromNowOn() {
        expect.part("if the barrow repaired them in this order from now on");
        RepairBarrows service = Services.at(20, 0);
        service.addJob(19, 0, 'a', 0, 1, 30);
        service.addJob(1, 0, 'a', 0, 1, 23);
        service.assign(1, 0);
        service.assign(2, 0);
        expect.same("from 20,0 at 21", "1:23>2:42", Text.plan(service, 0));
        expect.same("bestLateness", 19, service.bestLateness(0));
        expect.same("bestLatenessByOrders", 19, service.bestLatenessByOrders(0));
        service.goHome(0);
        expect.same("from 0,0 at 41", "2:43>1:62", Text.plan(service, 0));
        expect.same("bestLateness", 52, service.bestLateness(0));
        expect.same("bestLatenessByOrders", 52, service.bestLatenessByOrders(0));
    }

    // ---- promises 36 to 42

    private void totals() {
        expect.part("36 totalEarnings, 37 totalEarningsByHours: of all barrows and all repairs");
        RepairBarrows service = Services.stocked();
        long total = 0;
        for (int barrow = 0; barrow < 3; barrow++) {
            service.borrow(barrow, barrow);
            service.load(barrow, 'a', 2);
            for (int i = 0; i < 2; i++) {
                int late = service.repair(barrow, service.addJob(10 * barrow, 0, 'a', barrow, 1 + barrow, 8)) / 2;
                total += 10 * (1 + barrow) - 2 * late;
                expect.same("totalEarnings()", total, service.totalEarnings());
                expect.same("totalEarningsByHours()", total, service.totalEarningsByHours());
            }
        }
        expect.same("repaired()", 6, service.repaired());
        expect.same("earnings(0)", 20, service.earnings(0));
        expect.same("earnings(1)", 40 - 2 * (4 + 6), service.earnings(1));
        expect.same("earnings(2)", 60 - 2 * (15 + 18), service.earnings(2));
    }

    private void meanLateness() {
        expect.part("39 meanLateness: the sum divided by their number, both converted to double");
        RepairBarrows service = Services.equipped();
        int[] dues = {199, 1, 1, 199, 1, 199, 199};
        int sum = 0;
        for (int i = 0; i < dues.length; i++) {
            sum += service.repair(0, service.addJob(1, 1, 'a', 0, 1, dues[i])) / 2;
            expect.same("after " + (i + 1), (double) sum / (double) (i + 1), service.meanLateness());
        }
        expect.same("the sum", 3 + 4 + 6, sum);
        expect.same("13 / 7", 13.0 / 7.0, service.meanLateness());
    }

    private void borrowedShare() {
        expect.part("40 borrowedShare: both converted to float");
        RepairBarrows service = new RepairBarrows();
        float[] dues = {0f, 1f / 6f, 2f / 6f, 3f / 6f, 4f / 6f, 5f / 6f, 1f};
        expect.same("0 of 6", dues[0], service.borrowedShare());
        for (int tool = 0; tool < 6; tool++) {
            service.borrow((tool + 2) % 3, tool);
            expect.same(tool + 1 + " of 6", dues[tool + 1], service.borrowedShare());
        }
    }

    private void barrowByEarnings() {
        expect.part("41 barrowByEarnings: by earnings, then by clocks, then by numbers");
        int[][] orders = {{0, 1, 2}, {0, 2, 1}, {1, 0, 2}, {1, 2, 0}, {2, 0, 1}, {2, 1, 0}};
        for (int[] order : orders) {
            RepairBarrows byClock = new RepairBarrows();
            RepairBarrows byEarnings = Services.stocked();
            for (int i = 0; i < 3; i++) {
                byClock.rest(order[i], 10 + i);
                byEarnings.borrow(order[i], i);
                byEarnings.load(order[i], 'a', 1);
                byEarnings.repair(order[i], byEarnings.addJob(0, 0, 'a', i, 4 - i, 199));
            }
            for (int rank = 0; rank < 3; rank++) {
                expect.same("by clocks", order[rank], byClock.barrowByEarnings(rank));
                expect.same("by earnings, against clocks", order[rank], byEarnings.barrowByEarnings(rank));
            }
        }
        for (int last = 0; last < 3; last++) {
            RepairBarrows equal = new RepairBarrows();
            equal.rest(last, 1);
            expect.same("two are equal, 0", last == 0 ? 1 : 0, equal.barrowByEarnings(0));
            expect.same("two are equal, 1", last == 2 ? 1 : 2, equal.barrowByEarnings(1));
            expect.same("two are equal, 2", last, equal.barrowByEarnings(2));
        }
    }

    private void isConsistent() {
        expect.part("42 isConsistent: not more than 10 parts, not more than 6 assigned jobs");
        expect.same("a new object", true, new RepairBarrows().isConsistent());
        expect.same("10 parts, 6 jobs, a late repair", true, Services.busy().isConsistent());
    }

    // ---- promises 43 to 45

    private void writeBarrow() {
        expect.part("43 writeBarrow");
        for (int barrow = 0; barrow < 3; barrow++) {
            expect.same("nothing in it", barrow + "@0,0+0", Text.barrow(new RepairBarrows(), barrow));
        }
        RepairBarrows service = Services.stocked();
        for (int tool = 5; tool >= 0; tool--) {
            service.borrow(1, tool);
        }
        service.load(1, 'd', 1);
        service.load(1, 'b', 2);
        service.load(1, 'a', 1);
        service.load(1, 'c', 3);
        expect.same("all tools and kinds", "1@0,0+0 t0 t1 t2 t3 t4 t5 a1 b2 c3 d1", Text.barrow(service, 1));
        service.repair(1, service.addJob(20, 19, 'd', 5, 4, 199));
        service.rest(1, 99);
        expect.same("the last d is used up", "1@20,19+142 t0 t1 t2 t3 t4 t5 a1 b2 c3", Text.barrow(service, 1));
        service.load(0, 'c', 10);
        expect.same("10 parts", "0@0,0+0 c10", Text.barrow(service, 0));
        expect.same("another one has none", "2@0,0+0", Text.barrow(service, 2));
    }

    private void writeBarrowReplaces() {
        expect.part("43, 44: the output line, which replaces its old content");
        RepairBarrows service = Services.at(1, 1);
        expect.same("long", 13, service.writeBarrow(0));
        expect.same("its end", '9', service.charAt(12));
        expect.same("short", 7, service.writeBarrow(2));
        expect.fails("behind the short one", INDEX, () -> service.charAt(7));
        expect.same("the short one", "2@0,0+0", Text.line(service, 7));
        expect.same("no plan", 0, service.writePlan(2));
        expect.fails("behind the empty one", INDEX, () -> service.charAt(0));
    }

    private void writePlan() {
        expect.part("44 writePlan: \">\" between two; empty without assigned jobs");
        RepairBarrows service = new RepairBarrows();
        expect.same("none", 0, service.writePlan(0));
        service.addJob(1, 1, 'a', 0, 1, 3);
        service.assign(0, 0);
        expect.same("one", "0:3", Text.plan(service, 0));
        for (int job = 1; job < 6; job++) {
            service.addJob(1, 1, 'a', 0, 4, 3 + 4 * job);
            service.assign(job, 0);
        }
        expect.same("six", "0:3>1:7>2:11>3:15>4:19>5:23", Text.plan(service, 0));
        service.rest(0, 99);
        service.rest(0, 99);
        expect.same("of another barrow", 0, service.writePlan(1));
        expect.same("three digits", "0:201", Text.plan(service, 0).substring(0, 5));
    }

    private void charAt() {
        expect.part("45 charAt: 0 to the length minus 1, the line is initially empty");
        RepairBarrows service = Services.equipped();
        expect.fails("initially", INDEX, () -> service.charAt(0));
        service.writeBarrow(0);
        expect.same("the first", '0', service.charAt(0));
        expect.same("the last", '0', service.charAt(13));
        expect.fails("behind it", INDEX, () -> service.charAt(14));
        expect.fails("before it", INDEX, () -> service.charAt(-1));
        service.rest(0, 12);
        expect.same("the line is what was written", '0', service.charAt(6));
    }
}
