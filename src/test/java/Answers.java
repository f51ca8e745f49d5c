import java.util.ArrayList;
import java.util.List;
import java.util.concurrent.Callable;

/** What a service answers to every question that changes nothing, with the exceptions among the answers. */
final class Answers {
    private static final int LAST_JOB = 14;
    private static final int LONGEST_LINE = 40;

    private final RepairBarrows service;
    private final List<String> answers = new ArrayList<>();

    private Answers(RepairBarrows service) {
        this.service = service;
    }

    static List<String> of(RepairBarrows service) {
        Answers all = new Answers(service);
        all.askForLine();
        all.askForJobs();
        all.askForParts();
        all.askForBarrows();
        all.askForAccounts();
        return all.answers;
    }

    /** A line for each question, so that two services can be told apart by the first line that differs. */
    static String line(String question, Object answer) {
        return question + " = " + answer;
    }

    private void ask(String question, Callable<?> call) {
        answers.add(line(question, Expect.outcome(call)));
    }

    private void askForLine() {
        StringBuilder text = new StringBuilder();
        Object sign = Expect.outcome(() -> service.charAt(0));
        while (sign instanceof Character && text.length() < LONGEST_LINE) {
            text.append(sign);
            sign = Expect.outcome(() -> service.charAt(text.length()));
        }
        answers.add(line("the output line", text + " " + sign));
    }

    private void askForJobs() {
        ask("jobs()", service::jobs);
        for (int i = -1; i <= LAST_JOB; i++) {
            int job = i;
            ask("isOpen(" + job + ")", () -> service.isOpen(job));
            if (service.isOpen(job)) {
                ask("kind(" + job + ")", () -> service.kind(job));
                ask("tool(" + job + ")", () -> service.tool(job));
                ask("due(" + job + ")", () -> service.due(job));
                ask("barrowOf(" + job + ")", () -> service.barrowOf(job));
                ask("fastestBarrow(" + job + ")", () -> service.fastestBarrow(job));
                askForRepairs(job);
            }
        }
        for (int i = 0; i <= 12; i++) {
            int rank = i;
            ask("jobByDue(" + rank + ")", () -> service.jobByDue(rank));
        }
    }

    private void askForRepairs(int job) {
        for (int i = 0; i < 3; i++) {
            int barrow = i;
            ask("canRepair(" + barrow + ", " + job + ")", () -> service.canRepair(barrow, job));
            ask("finish(" + barrow + ", " + job + ")", () -> service.finish(barrow, job));
        }
    }

    private void askForParts() {
        for (char i = 'a'; i <= 'd'; i++) {
            char kind = i;
            ask("stock(" + kind + ")", () -> service.stock(kind));
            ask("parts(0, " + kind + ")", () -> service.parts(0, kind));
            ask("parts(1, " + kind + ")", () -> service.parts(1, kind));
            ask("parts(2, " + kind + ")", () -> service.parts(2, kind));
        }
        for (int i = 0; i < 6; i++) {
            int tool = i;
            ask("holder(" + tool + ")", () -> service.holder(tool));
        }
    }

    private void askForBarrows() {
        for (int i = 0; i < 3; i++) {
            int barrow = i;
            ask("tools(" + barrow + ")", () -> service.tools(barrow));
            ask("barrowX(" + barrow + ")", () -> service.barrowX(barrow));
            ask("barrowY(" + barrow + ")", () -> service.barrowY(barrow));
            ask("clock(" + barrow + ")", () -> service.clock(barrow));
            ask("isHome(" + barrow + ")", () -> service.isHome(barrow));
            ask("assigned(" + barrow + ")", () -> service.assigned(barrow));
            ask("bestLatenessByOrders(" + barrow + ")", () -> service.bestLatenessByOrders(barrow));
            ask("bestLateness(" + barrow + ")", () -> service.bestLateness(barrow));
            ask("earnings(" + barrow + ")", () -> service.earnings(barrow));
            ask("barrowByEarnings(" + barrow + ")", () -> service.barrowByEarnings(barrow));
            for (int k = 0; k <= 6; k++) {
                int position = k;
                ask("planned(" + barrow + ", " + position + ")", () -> service.planned(barrow, position));
            }
        }
    }

    private void askForAccounts() {
        ask("totalEarnings()", service::totalEarnings);
        ask("totalEarningsByHours()", service::totalEarningsByHours);
        ask("repaired()", service::repaired);
        ask("meanLateness()", service::meanLateness);
        ask("borrowedShare()", service::borrowedShare);
        ask("isConsistent()", service::isConsistent);
        ask("errorPosition()", service::errorPosition);
        ask("failedCommand()", service::failedCommand);
    }
}
