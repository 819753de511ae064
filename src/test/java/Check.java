import java.util.ArrayList;
import java.util.List;

/** Counts what passed and failed; a test is a named piece of code that says what is due. */
final class Check {
    interface Body {
        void run(Check check) throws Exception;
    }

    private int passed;
    private int failed;
    private List<String> wrong = new ArrayList<>();

    void same(String what, long got, long due) {
        if (got != due) {
            wrong.add(what + " answered " + got + ", due is " + due);
        }
    }

    void truth(String what, boolean holds) {
        if (!holds) {
            wrong.add(what);
        }
    }

    void test(String name, Body body) {
        wrong = new ArrayList<>();
        try {
            body.run(this);
        } catch (Exception e) {
            wrong.add("threw " + e);
        }
        if (wrong.isEmpty()) {
            passed++;
            return;
        }
        failed++;
        System.out.println("FAILED " + name);
        for (String line : wrong.subList(0, Math.min(wrong.size(), 10))) {
            System.out.println("    " + line);
        }
    }

    /** The closing line of one file of tests, which .ci/run adds up; then the exit code. */
    void close() {
        System.out.println("counted " + passed + " " + failed);
        System.exit(failed == 0 ? 0 : 1);
    }
}
