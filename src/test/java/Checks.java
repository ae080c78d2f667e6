import java.util.Set;
import java.util.TreeSet;

/** Counts and prints the answers that are not as due. */
final class Checks {
    static final int BEYOND = -1000001;
    static final int FULL = -1000002;
    static final int KIND = -1000003;
    static final int NONE = -1000004;
    static final int STATE = -1000005;
    static final int MISSING = -1000006;
    static final int SIZE = -1000007;

    private final String name;
    private final Set<String> wrongParts = new TreeSet<>();
    private String part = "";
    private int asked;
    private int wrong;

    Checks(String name) {
        this.name = name;
    }

    void part(String title) {
        part = title;
    }

    void due(String call, long got, long want) {
        asked++;
        if (got == want) return;
        wrong++;
        wrongParts.add(part);
        if (wrong <= 50) {
            System.out.println(part + ": " + call + " answered " + got + ", due is " + want);
        }
    }

    void dueTrue(String what, boolean isSo) {
        due(what, isSo ? 1 : 0, 1);
    }

    int wrong() {
        return wrong;
    }

    /** The titles of the parts that had a wrong answer. */
    Set<String> wrongParts() {
        return wrongParts;
    }

    void end() {
        System.out.println(name + ": " + asked + " asked, " + wrong + " wrong");
        if (wrong != 0) System.exit(1);
    }
}
