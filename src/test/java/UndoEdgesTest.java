import java.util.List;
import java.util.function.Supplier;

/** Every sentence of "Undo" and of the promises 50 to 52 that names a boundary. */
public final class UndoEdgesTest {
    private static final Class<IllegalStateException> STATE = IllegalStateException.class;
    /** Each kind of change once, in an order in which all succeed on a new object. */
    private static final Twins.Call[] CHANGES = {
        service -> service.addStock('a', 9),
        service -> service.addJob(3, 4, 'a', 0, 2, 5),
        service -> service.assign(0, 1),
        service -> service.load(0, 'a', 3),
        service -> service.borrow(0, 0),
        service -> service.unassign(0),
        service -> service.repair(0, 0),
        service -> service.goHome(0),
        service -> service.giveBack(0, 0),
        service -> service.rest(2, 9),
        service -> Text.run(service, "job 1,1 b1 2@3;give 1>2;rest 1 5"),
        service -> service.cancelJob(1)};

    private final Expect expect = new Expect();

    public static void main(String[] arguments) {
        UndoEdgesTest test = new UndoEdgesTest();
        test.eightLatest();
        test.eachKindIsAChange();
        test.refusedCallsKeepTheOldest();
        test.changesThatAlterNothing();
        test.whatIsNoChange();
        test.everyNumberOfUndos();
        test.changeAfterUndo();
        test.whatUndoLeaves();
        test.everySavedState();
        test.whatRestoreLeaves();
        test.savedOnceMore();
        test.numbersOfJobs();
        test.saveAndUndo();
        test.expect.end();
    }

    private static RepairBarrows after(int changes) {
        RepairBarrows service = new RepairBarrows();
        for (int i = 0; i < changes; i++) {
            CHANGES[i].on(service);
        }
        return service;
    }

    private void expectEqual(String name, RepairBarrows due, RepairBarrows service) {
        List<String> dues = Answers.of(due);
        List<String> answers = Answers.of(service);
        expect.same(name + ", answers", dues.size(), answers.size());
        for (int i = 0; i < Math.min(dues.size(), answers.size()); i++) {
            expect.same(name, dues.get(i), answers.get(i));
        }
        expect.same(name + ", the next number", due.addJob(0, 0, 'a', 0, 1, 1), service.addJob(0, 0, 'a', 0, 1, 1));
    }

    // ---- undo

    private void eightLatest() {
        expect.part("The 8 latest changes can be undone");
        for (int changes = 0; changes <= 18; changes++) {
            RepairBarrows service = new RepairBarrows();
            for (int i = 0; i < changes; i++) {
                service.rest(0, 1);
            }
            for (int left = Math.min(changes, 8) - 1; left >= 0; left--) {
                expect.same("of " + changes, left, service.undo());
                expect.same("of " + changes + ", clock", Math.max(0, changes - 8) + left, service.clock(0));
            }
            expect.fails("of " + changes + ", no more", STATE, service::undo);
            expect.fails("of " + changes + ", and again", STATE, service::undo);
            expect.same("of " + changes + ", clock", Math.max(0, changes - 8), service.clock(0));
        }
    }

    private void eachKindIsAChange() {
        expect.part("A change is a successful call of addJob, ..., rest or run");
        for (int i = 0; i < CHANGES.length; i++) {
            RepairBarrows service = rested(after(i));
            service.save();
            service.restore();
            expect.fails("none before change " + i, STATE, service::undo);
            CHANGES[i].on(service);
            expect.same("change " + i, 0, service.undo());
            expectEqual("change " + i + " is undone", rested(after(i)), service);
        }
    }

    /** Leaves no state of a new object behind that an undo could come upon by chance. */
    private static RepairBarrows rested(RepairBarrows service) {
        for (int i = 0; i < 10; i++) {
            service.rest(2, 1);
        }
        return service;
    }

    private void refusedCallsKeepTheOldest() {
        expect.part("A method that throws an exception changes nothing: the 8 latest changes are the same");
        Twins.Call[] refused = {service -> service.addJob(0, 0, 'e', 0, 1, 1), service -> service.cancelJob(0),
            service -> service.assign(0, 0), service -> service.unassign(0), service -> service.addStock('a', 0),
            service -> service.load(0, 'a', 1), service -> service.borrow(0, 6), service -> service.giveBack(0, 0),
            service -> service.repair(0, 0), service -> service.goHome(3), service -> service.rest(0, 0),
            service -> Text.run(service, "rest 0 50;home 9"), service -> Text.run(service, "home")};
        for (int i = 0; i < refused.length; i++) {
            Twins.Call call = refused[i];
            RepairBarrows service = rested(new RepairBarrows());
            for (int again = 0; again < 10; again++) {
                expect.same("refused " + i, true, Expect.outcome(() -> call.on(service)) instanceof Class);
            }
            for (int left = 7; left >= 0; left--) {
                expect.same("refused " + i, left, service.undo());
                expect.same("refused " + i + ", clock(2)", left + 2, service.clock(2));
            }
            expect.fails("refused " + i, STATE, service::undo);
        }
    }

    private void changesThatAlterNothing() {
        expect.part("A change is a successful call, whatever it alters");
        RepairBarrows service = new RepairBarrows();
        service.goHome(0);
        Text.run(service, "home 1");
        expect.same("run", 1, service.undo());
        expect.same("goHome", 0, service.undo());
    }

    private void whatIsNoChange() {
        expect.part("What is no change");
        RepairBarrows service = after(6);
        service.save();
        service.restore();
        service.type('h');
        service.writeBarrow(0);
        service.writePlan(0);
        service.save();
        expect.fails("a failing call", IllegalArgumentException.class, () -> service.rest(0, 0));
        expect.fails("no program", IllegalArgumentException.class, service::run);
        expect.fails("a failing program", UnsupportedOperationException.class, () -> Text.run(service, "home 3"));
        Answers.of(service);
        expect.fails("undo()", STATE, service::undo);
    }

    private void everyNumberOfUndos() {
        expect.part("50 undo: the latest change that was not undone; the number that can still be undone");
        for (int changes = 1; changes <= CHANGES.length; changes++) {
            for (int undos = 1; undos <= Math.min(changes, 8); undos++) {
                RepairBarrows service = after(changes);
                for (int i = 1; i <= undos; i++) {
                    expect.same(undos + " of " + changes, Math.min(changes, 8) - i, service.undo());
                }
                expectEqual(undos + " of " + changes, after(changes - undos), service);
            }
        }
    }

    private void changeAfterUndo() {
        expect.part("50 undo: changes and undos by turns");
        RepairBarrows service = new RepairBarrows();
        for (int i = 0; i < 20; i++) {
            service.rest(1, 1);
            service.rest(1, 2);
            expect.same("the second", Math.min(i + 1, 7), service.undo());
            expect.same("clock(1)", i + 1, service.clock(1));
        }
        for (int left = 6; left >= 0; left--) {
            expect.same("undo()", left, service.undo());
        }
        expect.same("clock(1)", 13, service.clock(1));
        expect.fails("no more", STATE, service::undo);
    }

    private void whatUndoLeaves() {
        expect.part("everything except the program buffer, the error position, the failed command and the output line");
        RepairBarrows service = new RepairBarrows();
        service.rest(0, 5);
        recordAndType(service);
        expect.same("undo()", 0, service.undo());
        expectLeft(service);
        expect.same("clock(0)", 0, service.clock(0));
    }

    private void recordAndType(RepairBarrows service) {
        service.writeBarrow(0);
        Expect.outcome(() -> Text.run(service, "home x"));
        Expect.outcome(() -> Text.run(service, "home 0;home 1;home 9"));
        Text.type(service, "rest 2 ");
    }

    private void expectLeft(RepairBarrows service) {
        expect.same("the output line", "0@0,0+5", Text.line(service, 7));
        expect.same("errorPosition()", 5, service.errorPosition());
        expect.same("failedCommand()", 2, service.failedCommand());
        expect.same("the buffer", 8, service.type('8'));
        expect.same("its program", 1, service.run());
        expect.same("clock(2)", 8, service.clock(2));
    }

    // ---- save and restore

    private void everySavedState() {
        expect.part("51 save, 52 restore: the state; afterwards no change can be undone");
        for (int first = 0; first <= CHANGES.length; first++) {
            for (int more = 0; more <= CHANGES.length - first; more++) {
                RepairBarrows service = after(first);
                int jobs = service.jobs();
                String name = first + " and " + more;
                expect.same(name + ", save", jobs, service.save());
                for (int i = first; i < first + more; i++) {
                    CHANGES[i].on(service);
                }
                expect.same(name + ", restore", jobs, service.restore());
                expect.fails(name + ", undo", STATE, service::undo);
                expectEqual(name, after(first), service);
            }
        }
    }

    private void whatRestoreLeaves() {
        expect.part("52 restore: not the program buffer, the error position, the failed command and the output line");
        RepairBarrows service = new RepairBarrows();
        service.save();
        service.rest(0, 5);
        recordAndType(service);
        expect.same("restore()", 0, service.restore());
        expectLeft(service);
        expect.same("clock(0)", 0, service.clock(0));
        expect.fails("a new error", IllegalArgumentException.class, service::run);
        expect.fails("a new failure", UnsupportedOperationException.class, () -> Text.run(service, "home 9"));
        service.writePlan(0);
        service.restore();
        expect.same("the new error position", 0, service.errorPosition());
        expect.same("the new failed command", 0, service.failedCommand());
        expect.fails("the new line", IndexOutOfBoundsException.class, () -> service.charAt(0));
        expect.same("the new buffer", 1, service.type('h'));
    }

    private void savedOnceMore() {
        expect.part("51 save: in place of the state that was saved before; 52 restore: it stays saved");
        RepairBarrows service = new RepairBarrows();
        service.rest(0, 1);
        service.save();
        for (int i = 0; i < 3; i++) {
            service.rest(0, 10);
            service.restore();
            expect.same("it stays saved", 1, service.clock(0));
        }
        service.rest(0, 20);
        service.save();
        service.rest(0, 30);
        service.restore();
        expect.same("the later one", 21, service.clock(0));
        service.restore();
        expect.same("restored again", 21, service.clock(0));
        service.rest(0, 1);
        expect.same("a change after restore", 0, service.undo());
        expect.fails("and none before it", STATE, service::undo);
        expect.same("undone to the restored state", 21, service.clock(0));
    }

    private void numbersOfJobs() {
        expect.part("51 save, 52 restore: the number of open jobs");
        RepairBarrows service = new RepairBarrows();
        expect.same("save() of none", 0, service.save());
        for (int job = 0; job < 12; job++) {
            service.addJob(job, 0, 'a', 0, 1, 9);
        }
        expect.same("restore() of none", 0, service.restore());
        for (int job = 0; job < 12; job++) {
            expect.same("the numbers begin anew", job, service.addJob(job, 0, 'a', 0, 1, 9));
        }
        expect.same("save() of twelve", 12, service.save());
        service.cancelJob(0);
        service.cancelJob(11);
        expect.same("restore() of twelve", 12, service.restore());
        expect.fails("a 13th", STATE, () -> service.addJob(0, 0, 'a', 0, 1, 9));
    }

    private void saveAndUndo() {
        expect.part("51 save: a saved state and the changes that can be undone do not touch one another");
        RepairBarrows service = new RepairBarrows();
        service.rest(0, 1);
        service.rest(0, 2);
        service.save();
        expect.same("undo after save", 1, service.undo());
        expect.same("and again", 0, service.undo());
        expect.same("clock(0)", 0, service.clock(0));
        service.restore();
        expect.same("the saved state", 3, service.clock(0));
        Supplier<RepairBarrows> twelve = () -> after(CHANGES.length);
        RepairBarrows saved = twelve.get();
        for (int i = 0; i < 3; i++) {
            saved.save();
        }
        expectEqual("save alters nothing", twelve.get(), saved);
        expect.same("nor what can be undone", 7, saved.undo());
    }
}
