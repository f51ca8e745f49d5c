import java.util.ArrayDeque;
import java.util.ArrayList;
import java.util.Arrays;
import java.util.Comparator;
import java.util.Deque;
import java.util.List;
import java.util.Map;
import java.util.NoSuchElementException;
import java.util.TreeMap;
import java.util.regex.Matcher;
import java.util.regex.Pattern;

/**
 * A second, slower program of the document, which shares no idea with the first one: a state is a map of
 * texts and numbers, plans are searched through all orders as lists, and programs are read by patterns.
 */
final class Model {
    private static final String NUMBER = "([0-9]{1,3})";
    private static final String DIGIT = "([0-9])";
    private static final String KIND = "([a-d])";
    private static final String[] COMMANDS = {
        "job " + NUMBER + "," + NUMBER + " " + KIND + DIGIT + " " + DIGIT + "@" + NUMBER,
        "cancel " + NUMBER, "give " + NUMBER + ">" + DIGIT, "take " + NUMBER, "stock " + KIND + NUMBER,
        "load " + DIGIT + KIND + NUMBER, "borrow " + DIGIT + DIGIT, "return " + DIGIT + DIGIT,
        "fix " + DIGIT + " " + NUMBER, "home " + DIGIT, "rest " + DIGIT + " " + NUMBER};
    private static final String ANY_COMMAND = "(?:" + String.join("|", COMMANDS) + ")";
    private static final List<String> OF_JOBS_AND_PARTS = List.of("jobs", "isOpen", "kind", "tool", "due",
            "barrowOf", "jobByDue", "stock", "parts", "holder", "canRepair", "finish", "fastestBarrow");
    private static final Pattern PROGRAM = Pattern.compile(ANY_COMMAND + "(?:;" + ANY_COMMAND + ")*");

    private Map<String, Integer> state = new TreeMap<>();
    private Map<String, Integer> saved = null;
    private final Deque<Map<String, Integer>> past = new ArrayDeque<>();
    private String buffer = "";
    private String line = "";
    private Integer error = null;
    private Integer failure = null;

    // ---- the state: what is not in the map is 0, or nowhere

    private int get(String key) {
        return state.getOrDefault(key, 0);
    }

    private void add(String key, int change) {
        state.merge(key, change, Integer::sum);
    }

    private static String of(String what, int number) {
        return what + " " + number;
    }

    private List<Integer> open() {
        List<Integer> jobs = new ArrayList<>();
        for (int job = 0; job < get("numbers"); job++) {
            if (state.containsKey(of("due", job))) {
                jobs.add(job);
            }
        }
        return jobs;
    }

    private List<Integer> assignedTo(int barrow) {
        List<Integer> jobs = open();
        jobs.removeIf(job -> !Integer.valueOf(barrow).equals(state.get(of("barrow", job))));
        return jobs;
    }

    private List<Integer> toolsOf(int barrow) {
        List<Integer> tools = new ArrayList<>();
        for (int tool = 0; tool < 6; tool++) {
            if (Integer.valueOf(barrow).equals(state.get(of("holder", tool)))) {
                tools.add(tool);
            }
        }
        return tools;
    }

    private int partsOf(int barrow) {
        int count = 0;
        for (char kind = 'a'; kind <= 'd'; kind++) {
            count += get(of("parts " + kind, barrow));
        }
        return count;
    }

    private boolean atShed(int barrow) {
        return get(of("x", barrow)) == 0 && get(of("y", barrow)) == 0;
    }

    private void close(int job) {
        state.keySet().removeIf(key -> key.matches("(jobx|joby|kind|tool|work|due|barrow) " + job));
    }

    // ---- what is refused

    private static void argument(boolean good) {
        if (!good) {
            throw new IllegalArgumentException();
        }
    }

    private static void state(boolean good) {
        if (!good) {
            throw new IllegalStateException();
        }
    }

    private static void index(boolean good) {
        if (!good) {
            throw new IndexOutOfBoundsException();
        }
    }

    private static void element(boolean good) {
        if (!good) {
            throw new NoSuchElementException();
        }
    }

    private static void support(boolean good) {
        if (!good) {
            throw new UnsupportedOperationException();
        }
    }

    private static boolean in(int value, int least, int greatest) {
        return least <= value && value <= greatest;
    }

    private static void barrow(int barrow) {
        index(in(barrow, 0, 2));
    }

    private void job(int job) {
        element(open().contains(job));
    }

    // ---- one call by its name

    Object call(String name, int[] a) {
        switch (name) {
            case "undo": case "save": case "restore": case "type": case "run":
                return control(name, a);
            case "addJob": case "cancelJob": case "assign": case "unassign": case "addStock": case "load":
            case "borrow": case "giveBack": case "repair": case "goHome": case "rest":
                return changed(() -> change(name, a));
            default:
                return OF_JOBS_AND_PARTS.contains(name) ? ofJobs(name, a) : ofBarrows(name, a);
        }
    }

    private int changed(java.util.function.IntSupplier change) {
        Map<String, Integer> before = new TreeMap<>(state);
        int answer;
        try {
            answer = change.getAsInt();
        } catch (RuntimeException refused) {
            state = before;
            throw refused;
        }
        past.addLast(before);
        if (past.size() > 8) {
            past.removeFirst();
        }
        return answer;
    }

    private int change(String name, int[] a) {
        switch (name) {
            case "addJob": return addJob(a[0], a[1], (char) a[2], a[3], a[4], a[5]);
            case "cancelJob": job(a[0]); close(a[0]); return open().size();
            case "assign": return assign(a[0], a[1]);
            case "unassign": job(a[0]); state(state.containsKey(of("barrow", a[0])));
                return state.remove(of("barrow", a[0]));
            case "addStock": argument(in(a[0], 'a', 'd') && in(a[1], 1, 99));
                state(get("stock " + (char) a[0]) + a[1] <= 99);
                add("stock " + (char) a[0], a[1]);
                return get("stock " + (char) a[0]);
            case "load": return load(a[0], (char) a[1], a[2]);
            case "borrow": index(in(a[0], 0, 2) && in(a[1], 0, 5));
                state(atShed(a[0]) && !state.containsKey(of("holder", a[1])));
                state.put(of("holder", a[1]), a[0]);
                return toolsOf(a[0]).size();
            case "giveBack": index(in(a[0], 0, 2) && in(a[1], 0, 5));
                state(atShed(a[0]) && toolsOf(a[0]).contains(a[1]));
                state.remove(of("holder", a[1]));
                return toolsOf(a[0]).size();
            case "repair": return repair(a[0], a[1]);
            case "goHome": barrow(a[0]);
                add(of("clock", a[0]), get(of("x", a[0])) + get(of("y", a[0])));
                state.remove(of("x", a[0]));
                state.remove(of("y", a[0]));
                return get(of("clock", a[0]));
            default: barrow(a[0]); argument(in(a[1], 1, 99)); add(of("clock", a[0]), a[1]);
                return get(of("clock", a[0]));
        }
    }

    private int addJob(int x, int y, char kind, int tool, int work, int due) {
        argument(in(x, 0, 20) && in(y, 0, 20) && in(kind, 'a', 'd') && in(tool, 0, 5));
        argument(in(work, 1, 4) && in(due, 1, 199));
        state(open().size() < 12);
        int job = get("numbers");
        add("numbers", 1);
        state.put(of("jobx", job), x);
        state.put(of("joby", job), y);
        state.put(of("kind", job), (int) kind);
        state.put(of("tool", job), tool);
        state.put(of("work", job), work);
        state.put(of("due", job), due);
        return job;
    }

    private int assign(int job, int barrow) {
        job(job);
        barrow(barrow);
        state(!assignedTo(barrow).contains(job) && assignedTo(barrow).size() < 6);
        state.put(of("barrow", job), barrow);
        return assignedTo(barrow).size();
    }

    private int load(int barrow, char kind, int count) {
        barrow(barrow);
        argument(in(kind, 'a', 'd') && in(count, 1, 10));
        state(atShed(barrow) && partsOf(barrow) + count <= 10);
        support(get("stock " + kind) >= count);
        add("stock " + kind, -count);
        add(of("parts " + kind, barrow), count);
        return partsOf(barrow);
    }

    private int repair(int barrow, int job) {
        barrow(barrow);
        job(job);
        state(toolsOf(barrow).contains(get(of("tool", job))));
        String part = of("parts " + (char) get(of("kind", job)), barrow);
        support(get(part) > 0);
        int finish = finishes(barrow, List.of(job)).get(0);
        int late = Math.max(0, finish - get(of("due", job)));
        add(part, -1);
        state.put(of("clock", barrow), finish);
        state.put(of("x", barrow), get(of("jobx", job)));
        state.put(of("y", barrow), get(of("joby", job)));
        add(of("earnings", barrow), 10 * get(of("work", job)) - 2 * late);
        add("late", late);
        add("repaired", 1);
        close(job);
        return 2 * late;
    }

    // ---- plans

    private List<Integer> finishes(int barrow, List<Integer> order) {
        List<Integer> finishes = new ArrayList<>();
        int x = get(of("x", barrow));
        int y = get(of("y", barrow));
        int clock = get(of("clock", barrow));
        for (int job : order) {
            clock += Math.abs(x - get(of("jobx", job))) + Math.abs(y - get(of("joby", job))) + get(of("work", job));
            x = get(of("jobx", job));
            y = get(of("joby", job));
            finishes.add(clock);
        }
        return finishes;
    }

    private int lateness(int barrow, List<Integer> order) {
        List<Integer> finishes = finishes(barrow, order);
        int sum = 0;
        for (int i = 0; i < order.size(); i++) {
            sum += Math.max(0, finishes.get(i) - get(of("due", order.get(i))));
        }
        return sum;
    }

    private static List<List<Integer>> orders(List<Integer> jobs) {
        if (jobs.isEmpty()) {
            return List.of(List.of());
        }
        List<List<Integer>> orders = new ArrayList<>();
        for (Integer first : jobs) {
            List<Integer> rest = new ArrayList<>(jobs);
            rest.remove(first);
            for (List<Integer> tail : orders(rest)) {
                List<Integer> order = new ArrayList<>(List.of(first));
                order.addAll(tail);
                orders.add(order);
            }
        }
        return orders;
    }

    private List<Integer> bestPlan(int barrow) {
        List<Integer> best = null;
        int least = Integer.MAX_VALUE;
        for (List<Integer> order : orders(assignedTo(barrow))) {
            int lateness = lateness(barrow, order);
            if (lateness < least) {
                best = order;
                least = lateness;
            }
        }
        return best;
    }

    // ---- questions

    private Object ofJobs(String name, int[] a) {
        switch (name) {
            case "jobs": return open().size();
            case "isOpen": return open().contains(a[0]);
            case "kind": job(a[0]); return (char) get(of("kind", a[0]));
            case "tool": job(a[0]); return get(of("tool", a[0]));
            case "due": job(a[0]); return get(of("due", a[0]));
            case "barrowOf": job(a[0]); element(state.containsKey(of("barrow", a[0])));
                return get(of("barrow", a[0]));
            case "jobByDue": element(in(a[0], 0, open().size() - 1));
                return ranked(open(), Comparator.comparing((Integer job) -> get(of("due", job)))).get(a[0]);
            case "stock": argument(in(a[0], 'a', 'd')); return get("stock " + (char) a[0]);
            case "parts": barrow(a[0]); argument(in(a[1], 'a', 'd')); return get(of("parts " + (char) a[1], a[0]));
            case "holder": index(in(a[0], 0, 5)); element(state.containsKey(of("holder", a[0])));
                return get(of("holder", a[0]));
            case "canRepair": barrow(a[0]); job(a[1]);
                return toolsOf(a[0]).contains(get(of("tool", a[1])))
                        && get(of("parts " + (char) get(of("kind", a[1])), a[0])) > 0;
            case "finish": barrow(a[0]); job(a[1]); return finishes(a[0], List.of(a[1])).get(0);
            case "fastestBarrow": job(a[0]);
                return ranked(List.of(0, 1, 2),
                        Comparator.comparing((Integer barrow) -> finishes(barrow, List.of(a[0])).get(0))).get(0);
            default: throw new AssertionError(name);
        }
    }

    // The sort is stable, so equal ones stay in the order of their numbers.
    private static List<Integer> ranked(List<Integer> numbers, Comparator<Integer> order) {
        List<Integer> sorted = new ArrayList<>(numbers);
        sorted.sort(order);
        return sorted;
    }

    private Object ofBarrows(String name, int[] a) {
        switch (name) {
            case "tools": barrow(a[0]); return toolsOf(a[0]).size();
            case "barrowX": barrow(a[0]); return get(of("x", a[0]));
            case "barrowY": barrow(a[0]); return get(of("y", a[0]));
            case "clock": barrow(a[0]); return get(of("clock", a[0]));
            case "isHome": barrow(a[0]); return atShed(a[0]);
            case "assigned": barrow(a[0]); return assignedTo(a[0]).size();
            case "bestLateness": case "bestLatenessByOrders": barrow(a[0]); return lateness(a[0], bestPlan(a[0]));
            case "planned": barrow(a[0]); element(in(a[1], 0, assignedTo(a[0]).size() - 1));
                return bestPlan(a[0]).get(a[1]);
            case "earnings": barrow(a[0]); return get(of("earnings", a[0]));
            case "totalEarnings": case "totalEarningsByHours":
                return (long) (get("earnings 0") + get("earnings 1") + get("earnings 2"));
            case "repaired": return get("repaired");
            case "meanLateness":
                if (get("repaired") == 0) {
                    throw new ArithmeticException();
                }
                return (double) get("late") / (double) get("repaired");
            case "borrowedShare":
                return (float) (toolsOf(0).size() + toolsOf(1).size() + toolsOf(2).size()) / 6f;
            case "barrowByEarnings": element(in(a[0], 0, 2));
                return ranked(List.of(0, 1, 2), Comparator.comparing((Integer b) -> -get(of("earnings", b)))
                        .thenComparing(b -> get(of("clock", b)))).get(a[0]);
            case "isConsistent": return true;
            case "writeBarrow": barrow(a[0]); line = barrowLine(a[0]); return line.length();
            case "writePlan": barrow(a[0]); line = planLine(a[0]); return line.length();
            case "charAt": index(in(a[0], 0, line.length() - 1)); return line.charAt(a[0]);
            case "errorPosition": element(error != null); return error;
            case "failedCommand": element(failure != null); return failure;
            default: throw new AssertionError(name);
        }
    }

    private String barrowLine(int barrow) {
        String text = barrow + "@" + get(of("x", barrow)) + "," + get(of("y", barrow)) + "+" + get(of("clock", barrow));
        for (int tool : toolsOf(barrow)) {
            text += " t" + tool;
        }
        for (char kind = 'a'; kind <= 'd'; kind++) {
            int count = get(of("parts " + kind, barrow));
            text += count > 0 ? " " + kind + count : "";
        }
        return text;
    }

    private String planLine(int barrow) {
        List<Integer> plan = bestPlan(barrow);
        List<String> parts = new ArrayList<>();
        for (int i = 0; i < plan.size(); i++) {
            parts.add(plan.get(i) + ":" + finishes(barrow, plan).get(i));
        }
        return String.join(">", parts);
    }

    // ---- programs, undo and snapshots

    private Object control(String name, int[] a) {
        switch (name) {
            case "undo": state(!past.isEmpty()); state = past.removeLast(); return past.size();
            case "save": saved = new TreeMap<>(state); return open().size();
            case "restore": state(saved != null); state = new TreeMap<>(saved); past.clear(); return open().size();
            case "type": state(buffer.length() < 60); buffer += (char) a[0]; return buffer.length();
            default: return run();
        }
    }

    private int run() {
        String text = buffer;
        buffer = "";
        if (!isProgram(text)) {
            error = errorIn(text);
            throw new IllegalArgumentException();
        }
        return changed(() -> execute(text.split(";")));
    }

    private int execute(String[] commands) {
        for (int i = 0; i < commands.length; i++) {
            try {
                execute(commands[i]);
            } catch (RuntimeException refused) {
                failure = i;
                throw new UnsupportedOperationException();
            }
        }
        return commands.length;
    }

    private void execute(String command) {
        List<String> names = Arrays.asList("addJob", "cancelJob", "assign", "unassign", "addStock", "load",
                "borrow", "giveBack", "repair", "goHome", "rest");
        for (int i = 0; i < COMMANDS.length; i++) {
            Matcher matcher = Pattern.compile(COMMANDS[i]).matcher(command);
            if (matcher.matches()) {
                int[] arguments = new int[matcher.groupCount()];
                for (int k = 0; k < arguments.length; k++) {
                    String group = matcher.group(k + 1);
                    arguments[k] = group.matches("[a-d]") ? group.charAt(0) : Integer.parseInt(group);
                }
                change(names.get(i), arguments);
                return;
            }
        }
        throw new AssertionError(command);
    }

    static boolean isProgram(String text) {
        return PROGRAM.matcher(text).matches();
    }

    static int errorIn(String text) {
        for (int i = 0; i < text.length(); i++) {
            if (!canGoOn(text.substring(0, i + 1))) {
                return i;
            }
        }
        return text.length();
    }

    private static boolean canGoOn(String beginning) {
        Matcher matcher = PROGRAM.matcher(beginning);
        return matcher.matches() || matcher.hitEnd();
    }
}
