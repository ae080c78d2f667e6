import java.util.function.Supplier;

/** Tests of the sentences that name a boundary case, each by itself. */
abstract class Edges {
    static final int BEYOND = Checks.BEYOND;
    static final int FULL = Checks.FULL;
    static final int KIND = Checks.KIND;
    static final int NONE = Checks.NONE;
    static final int STATE = Checks.STATE;
    static final int MISSING = Checks.MISSING;
    static final int SIZE = Checks.SIZE;
    static final int ALL = 65535;
    static final int[] FAR = {Integer.MIN_VALUE, -1000001, 300, 70000, 1 << 20, Integer.MAX_VALUE};

    /** A call on a land. */
    interface Act {
        long on(SkinLands land);
    }

    /** A call on a land with a number that is to be tried. */
    interface Try {
        long on(SkinLands land, int v);
    }

    final Held held;
    /** The land of the sentence that is held just now. */
    SkinLands x;

    Edges(Held held) {
        this.held = held;
    }

    abstract void run();

    /** Begins the test of words of a promise, on a new object. */
    final void sentence(int promise, String words) {
        held.begin(promise, words, "");
        x = new SkinLands();
    }

    /** Begins the test of words of "Terms", on a new object. */
    final void terms(String words) {
        terms(words, "");
    }

    final void terms(String words, String where) {
        held.begin(Document.TERMS, words, where);
        x = new SkinLands();
    }

    final void due(String call, long got, long want) {
        held.checks().due(call, got, want);
    }

    /** On a land of five KIN, with all sorts of things in it, a call answers a finding. */
    final void refuses(int finding, String call, Act act) {
        refuses(finding, call, Lands::five, act);
    }

    final void refuses(int finding, String call, Supplier<SkinLands> land, Act act) {
        held.dueRefusal(finding, call, land, act);
    }

    /** Numbers that are too small or too large, the next ones and far ones, are BEYOND. */
    final void refusesOutside(int least, int most, String call, Try act) {
        refusesOutside(least, most, call, Lands::five, act);
    }

    final void refusesOutside(int least, int most, String call, Supplier<SkinLands> land, Try act) {
        refuses(BEYOND, call + ", too small, " + (least - 1), land, on -> act.on(on, least - 1));
        refuses(BEYOND, call + ", too large, " + (most + 1), land, on -> act.on(on, most + 1));
        for (int far : FAR) {
            if (far < least || far > most) refuses(BEYOND, call + ", far " + far, land, on -> act.on(on, far));
        }
    }

    /** New KIN of these MARKS. */
    final void kin(int... marks) {
        for (int mark : marks) x.kin(0, mark);
    }

    final void turned(int kin, int turn) {
        x.change(kin, 3, turn);
    }

    final void aged(int kin, int age) {
        x.change(kin, 4, age);
    }

    final void dueMark(String call, int kin, int mark) {
        due(call, x.of(kin, 2), mark);
    }

    static int set(int... members) {
        int set = 0;
        for (int member : members) set |= 1 << member;
        return set;
    }
}
