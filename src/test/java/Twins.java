import java.util.ArrayList;
import java.util.EnumMap;
import java.util.List;
import java.util.Map;
import java.util.function.Supplier;

/** Compares a service whose call was refused with an equal one that was not called. */
final class Twins {
    /** A call that is due to be refused. */
    interface Call {
        Object on(RepairBarrows service);
    }

    /** What a test does before it looks at all answers: each shows another part of what is remembered. */
    private enum Look { AT_ONCE, AFTER_JOB, AFTER_RUN, AFTER_UNDOS, AFTER_RESTORE }

    private final Expect expect;
    private final Supplier<RepairBarrows> made;
    private final String rest;
    private final Map<Look, List<String>> dues = new EnumMap<>(Look.class);

    /** The rest is what makes the buffer a program. */
    Twins(Expect expect, Supplier<RepairBarrows> made, String rest) {
        this.expect = expect;
        this.made = made;
        this.rest = rest;
        for (Look look : Look.values()) {
            dues.put(look, see(made.get(), look));
        }
    }

    void refuse(String name, Class<? extends RuntimeException> due, Call call) {
        refuseBut(name, due, call, "", 0);
    }

    /** The same, but for the one question that answers otherwise afterwards. */
    void refuseBut(String name, Class<? extends RuntimeException> due, Call call, String question, Object answer) {
        for (Look look : Look.values()) {
            RepairBarrows service = made.get();
            expect.fails(name, due, () -> call.on(service));
            List<String> seen = see(service, look);
            expect.same(name + ", " + look + ", answers", dues.get(look).size(), seen.size());
            for (int i = 0; i < Math.min(dues.get(look).size(), seen.size()); i++) {
                String line = dues.get(look).get(i);
                boolean isOther = !question.isEmpty() && line.startsWith(Answers.line(question, ""));
                expect.same(name + ", " + look, isOther ? Answers.line(question, answer) : line, seen.get(i));
            }
        }
    }

    private List<String> see(RepairBarrows service, Look look) {
        List<String> seen = new ArrayList<>();
        switch (look) {
            case AFTER_JOB:
                seen.add("cancelJob " + Expect.outcome(() -> service.cancelJob(13)));
                seen.add("addJob " + Expect.outcome(() -> service.addJob(5, 5, 'c', 3, 1, 50)));
                break;
            case AFTER_RUN:
                seen.add("run " + Expect.outcome(() -> Text.run(service, rest)));
                break;
            case AFTER_UNDOS:
                for (int i = 0; i <= 8; i++) {
                    seen.add("undo " + Expect.outcome(service::undo) + ", " + glance(service));
                }
                break;
            case AFTER_RESTORE:
                seen.add("restore " + Expect.outcome(service::restore) + ", undo " + Expect.outcome(service::undo));
                break;
            default:
                break;
        }
        seen.addAll(Answers.of(service));
        return seen;
    }

    private static String glance(RepairBarrows service) {
        return service.jobs() + " " + service.assigned(0) + service.assigned(1) + service.assigned(2) + " "
                + service.clock(0) + " " + service.clock(1) + " " + service.clock(2);
    }
}
