import java.io.IOException;
import java.util.ArrayList;
import java.util.LinkedHashSet;
import java.util.List;
import java.util.Set;
import java.util.function.Supplier;

/** Which words of the document the tests of its edges hold, and which calls they saw refused. */
final class Held {
    /** A call that answers a finding, on a land that is made anew for it. */
    record Refusal(String title, int finding, Supplier<SkinLands> land, Edges.Act act) {
        /** A call that throws answers what no call does, so that the tests behind it are run, too. */
        long answer(SkinLands on) {
            try {
                return act.on(on);
            } catch (RuntimeException e) {
                return Long.MIN_VALUE;
            }
        }
    }

    private record Words(int promise, String words) { }

    private final Checks checks = new Checks("EdgesTest");
    private final Document document = new Document();
    private final Set<Words> held = new LinkedHashSet<>();
    private final List<Refusal> refusals = new ArrayList<>();
    private String part = "";

    Held() throws IOException { }

    static String title(int promise, String words) {
        return Document.name(promise) + ", \"" + words + "\"";
    }

    Checks checks() {
        return checks;
    }

    List<Refusal> refusals() {
        return refusals;
    }

    /** Some words stand in the document more than once: then it is told where, too. */
    void begin(int promise, String words, String where) {
        part = title(promise, words) + (where.isEmpty() ? "" : " (" + where + ")");
        checks.part(part);
        checks.dueTrue("these words stand in the document", document.says(promise, words));
        held.add(new Words(promise, words));
    }

    void dueRefusal(int finding, String call, Supplier<SkinLands> land, Edges.Act act) {
        Refusal refusal = new Refusal(part + ", " + call, finding, land, act);
        refusals.add(refusal);
        checks.due(call, refusal.answer(land.get()), finding);
    }

    /** No sentence of the document is left without a test of words of it, but for those that are let go. */
    void dueWholeDocument(Set<String> letGo) {
        for (int promise = Document.TERMS; promise <= Document.PROMISES; promise++) {
            checks.part("sentences held");
            for (String sentence : document.sentences(promise)) {
                checks.dueTrue(title(promise, sentence), letGo.contains(sentence) || isHeld(promise, sentence));
            }
        }
    }

    private boolean isHeld(int promise, String sentence) {
        for (Words one : held) {
            if (one.promise() == promise && sentence.contains(one.words())) return true;
        }
        return false;
    }
}
