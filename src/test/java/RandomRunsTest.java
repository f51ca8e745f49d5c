import java.lang.reflect.InvocationTargetException;
import java.lang.reflect.Method;
import java.util.ArrayList;
import java.util.Arrays;
import java.util.List;
import java.util.Random;

/** Makes random runs of 512 calls, always the same ones, and compares each answer with the model's. */
public final class RandomRunsTest {
    private static final int RUNS = 400;
    private static final int CALLS = 512;
    private static final String[] CHANGES = {"addJob", "cancelJob", "assign", "unassign", "addStock", "load",
        "borrow", "giveBack", "repair", "goHome", "rest"};
    private static final String[] WORDS = {"job ", "cancel ", "give ", "take ", "stock ", "load ", "borrow ",
        "return ", "fix ", "home ", "rest "};
    private static final String NOISE = "0123456789abcde;,>@ jrhx\u0161\u0000";

    private final Expect expect = new Expect();
    private final Random random;
    private final List<Method> methods = new ArrayList<>();
    private RepairBarrows service = new RepairBarrows();
    private Model model = new Model();
    private int calls = 0;
    private int nextJob = 0;

    private RandomRunsTest(long seed) {
        random = new Random(seed);
        for (Method method : RepairBarrows.class.getDeclaredMethods()) {
            if (java.lang.reflect.Modifier.isPublic(method.getModifiers())) {
                methods.add(method);
            }
        }
        methods.sort((one, other) -> one.getName().compareTo(other.getName()));
    }

    public static void main(String[] arguments) {
        RandomRunsTest test = new RandomRunsTest(20261119);
        for (int run = 0; run < RUNS; run++) {
            test.makeRun(run);
        }
        test.expect.end();
    }

    /** The runs differ in how often they do what: some have mostly plans, some mostly programs. */
    private void makeRun(int run) {
        service = new RepairBarrows();
        model = new Model();
        calls = 0;
        nextJob = 0;
        int changes = 20 + random.nextInt(70);
        int programs = random.nextInt(8);
        int repairs = random.nextInt(8);
        int backwards = random.nextInt(6);
        fillShed();
        if (random.nextInt(3) == 0) {
            fillPlans();
        }
        while (calls < CALLS - 6) {
            expect.part("run " + run + ", call " + calls);
            int chance = random.nextInt(100);
            if (chance < changes) {
                call(CHANGES[random.nextInt(CHANGES.length)]);
            } else if (chance < changes + programs) {
                typeProgram();
            } else if (chance < changes + programs + repairs) {
                aimAtRepair();
            } else if (chance == 99 && calls < CALLS - 40) {
                fillPlans();
            } else if (chance < changes + programs + repairs + backwards) {
                call(new String[] {"undo", "undo", "save", "restore"}[random.nextInt(4)]);
            } else {
                call(methods.get(random.nextInt(methods.size())).getName());
            }
        }
    }

    private void fillShed() {
        for (char kind = 'a'; kind <= 'd'; kind++) {
            make("addStock", kind, 30 + random.nextInt(50));
        }
        for (int tool = 0; tool < 6; tool++) {
            make("borrow", random.nextInt(3), tool);
            make("load", random.nextInt(3), 'a' + random.nextInt(4), 1 + random.nextInt(4));
        }
    }

    /** Random changes alone seldom leave many jobs with one barrow. */
    private void fillPlans() {
        int barrow = random.nextInt(3);
        for (int i = 0; i < 7; i++) {
            call("addJob");
            make("assign", nextJob - 1, barrow);
        }
        make("bestLateness", barrow);
        make("bestLatenessByOrders", barrow);
        make("writePlan", barrow);
        make("planned", barrow, 5);
        make("isConsistent");
        for (int i = random.nextInt(8); i > 0; i--) {
            make("charAt", random.nextInt(40));
        }
    }

    /** Random changes alone seldom bring tool, part and barrow together. */
    private void aimAtRepair() {
        int job = job();
        if (!model.call("isOpen", new int[] {job}).equals(true)) {
            return;
        }
        int tool = (Integer) model.call("tool", new int[] {job});
        int kind = (Character) model.call("kind", new int[] {job});
        Object holder = Expect.outcome(() -> model.call("holder", new int[] {tool}));
        int barrow = holder instanceof Integer ? (Integer) holder : random.nextInt(3);
        if (random.nextBoolean()) {
            make("goHome", barrow);
            make("borrow", barrow, tool);
            make("load", barrow, kind, 1);
        }
        make("canRepair", barrow, job);
        make("finish", barrow, job);
        make("repair", barrow, job);
    }

    private void call(String name) {
        make(name, arguments(name));
    }

    private int[] arguments(String name) {
        switch (name) {
            case "addJob":
                return new int[] {some(0, 20), some(0, 20), kind(), some(0, 5), some(1, 4), dueHour()};
            case "assign":
                return new int[] {job(), some(0, random.nextInt(3))};
            case "canRepair": case "finish": case "repair":
                return new int[] {some(0, 2), job()};
            case "cancelJob": case "unassign": case "isOpen": case "kind": case "tool": case "due":
            case "barrowOf": case "fastestBarrow":
                return new int[] {job()};
            case "addStock":
                return new int[] {kind(), some(1, random.nextBoolean() ? 9 : 99)};
            case "stock":
                return new int[] {kind()};
            case "load":
                return new int[] {some(0, 2), kind(), some(1, random.nextBoolean() ? 3 : 10)};
            case "parts":
                return new int[] {some(0, 2), kind()};
            case "borrow": case "giveBack":
                return new int[] {some(0, 2), some(0, 5)};
            case "rest":
                return new int[] {some(0, 2), some(1, random.nextBoolean() ? 5 : 99)};
            case "planned":
                return new int[] {some(0, 2), some(0, 5)};
            case "holder":
                return new int[] {some(0, 5)};
            case "jobByDue":
                return new int[] {some(0, 11)};
            case "charAt":
                return new int[] {some(0, 20)};
            case "type":
                return new int[] {NOISE.charAt(random.nextInt(NOISE.length()))};
            default:
                return new int[] {some(0, 2)};
        }
    }

    /** Mostly from the range; else its ends, beside them, or far away. */
    private int some(int least, int greatest) {
        int chance = random.nextInt(60);
        switch (chance) {
            case 0: return least - 1;
            case 1: return greatest + 1;
            case 2: return Integer.MIN_VALUE;
            case 3: return Integer.MAX_VALUE;
            case 4: return least;
            case 5: return greatest;
            default: return least + random.nextInt(greatest - least + 1);
        }
    }

    private int dueHour() {
        return random.nextInt(4) == 0 ? some(1, 199) : some(1, 60);
    }

    private int kind() {
        int chance = random.nextInt(60);
        return chance == 0 ? random.nextInt(65536) : chance == 1 ? '`' : chance == 2 ? 'e' : 'a' + random.nextInt(4);
    }

    private int job() {
        return some(Math.max(0, nextJob - 13), nextJob);
    }

    private void typeProgram() {
        StringBuilder text = new StringBuilder(command());
        for (int more = random.nextInt(1 + random.nextInt(8)); more > 0; more--) {
            String command = command();
            if (text.length() + 1 + command.length() <= 60) {
                text.append(';').append(command);
            }
        }
        if (random.nextInt(3) == 0) {
            spoil(text);
        }
        for (int i = 0; i < text.length() && calls < CALLS - 3; i++) {
            make("type", text.charAt(i));
        }
        make("run");
        make("errorPosition");
        make("failedCommand");
    }

    private void spoil(StringBuilder text) {
        int at = random.nextInt(text.length());
        char noise = NOISE.charAt(random.nextInt(NOISE.length()));
        switch (random.nextInt(4)) {
            case 0: text.setCharAt(at, noise); break;
            case 1: text.insert(at, noise); break;
            case 2: text.deleteCharAt(at); break;
            default: text.setLength(at); break;
        }
    }

    private String command() {
        int verb = random.nextInt(WORDS.length);
        int[] a = arguments(CHANGES[verb]);
        String word = WORDS[verb];
        switch (verb) {
            case 0:
                return word + number(a[0]) + "," + number(a[1]) + " " + letter(a[2]) + digit(a[3]) + " "
                        + digit(a[4]) + "@" + number(a[5]);
            case 1: case 3: return word + number(a[0]);
            case 2: return word + number(a[0]) + ">" + digit(a[1]);
            case 4: return word + letter(a[0]) + number(a[1]);
            case 5: return word + digit(a[0]) + letter(a[1]) + number(a[2]);
            case 6: case 7: return word + digit(a[0]) + digit(a[1]);
            case 9: return word + digit(a[0]);
            default: return word + digit(a[0]) + " " + number(a[1]);
        }
    }

    private String number(int value) {
        String digits = Integer.toString(value & Integer.MAX_VALUE);
        String padding = random.nextInt(5) == 0 ? "0" : "";
        return padding + digits.substring(0, Math.min(3, digits.length()));
    }

    private static String digit(int value) {
        return Integer.toString((value & Integer.MAX_VALUE) % 10);
    }

    private static char letter(int value) {
        return (char) value;
    }

    private void make(String name, int... arguments) {
        calls++;
        Object due = Expect.outcome(() -> model.call(name, arguments));
        Object answer = Expect.outcome(() -> answer(name, arguments));
        expect.same(name + Arrays.toString(arguments), due, answer);
        if (name.equals("addJob") && answer instanceof Integer) {
            nextJob = (Integer) answer + 1;
        }
    }

    private Object answer(String name, int[] arguments) throws Exception {
        for (Method method : methods) {
            if (method.getName().equals(name)) {
                Object[] boxed = new Object[method.getParameterCount()];
                for (int i = 0; i < boxed.length; i++) {
                    boxed[i] = method.getParameterTypes()[i] == char.class
                            ? (Object) (char) arguments[i] : (Object) arguments[i];
                }
                try {
                    return method.invoke(service, boxed);
                } catch (InvocationTargetException refused) {
                    throw (Exception) refused.getCause();
                }
            }
        }
        throw new AssertionError(name);
    }
}
