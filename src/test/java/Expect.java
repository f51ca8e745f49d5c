import java.util.concurrent.Callable;

/** Counts and prints the answers that are not as due, for one test class. */
final class Expect {
    private int checked = 0;
    private int wrong = 0;
    private String part = "";

    void part(String name) {
        part = name;
    }

    void same(String call, Object due, Object answer) {
        checked++;
        if (!due.equals(answer)) {
            wrong++;
            System.out.println(part + ": " + call + " answered " + answer + ", due is " + due);
        }
    }

    /** The very class is compared: an exception of the machine is often a subclass of the due one. */
    void fails(String call, Class<? extends RuntimeException> due, Callable<?> made) {
        same(call, due, outcome(made));
    }

    static Object outcome(Callable<?> made) {
        try {
            return made.call();
        } catch (Exception exception) {
            return exception.getClass();
        }
    }

    void end() {
        System.out.println(checked + " answers checked, " + wrong + " not as due");
        if (wrong > 0 || checked == 0) {
            System.exit(1);
        }
    }
}
