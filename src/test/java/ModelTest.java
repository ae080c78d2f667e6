import java.lang.reflect.Method;
import java.util.Arrays;

/** Long runs of calls, made by a fixed row of draws, on SkinLands and on NaiveLands: the same answers are due. */
public final class ModelTest {
    private static final int RUNS = 400;
    private static final int CALLS = 512;
    private static final String[] ACTS = {
        "kin/2", "of/2", "change/3", "birth/3", "who/1", "common/2", "turned/3", "go/1", "now/1", "ahead/3",
        "known/1", "when/1", "many/1", "match/3", "turnFor/2", "kindFor/2", "cover/0", "hide/2", "marry/0",
        "shows/2", "fits/2", "kinds/2", "spots/2", "moles/1", "odds/2", "seed/1", "feed/2", "wipe/0", "text/0",
        "hold/2", "as/2", "sheet/3", "write/3", "copy/5", "load/1", "judge/1", "image/0", "undo/0", "tear/0",
        "count/1", "status/1"};
    private static final String[] PIECES = {
        "kin", "cousin", "uncle", "child", "baby", "adopted", "sailor", " of ", " mark ", " turn ", " up", ";", ";",
        "aged ", " ", "0", "1", "2", "7", "99", "65535", "65536", "100000", "#", "\u00ff", "aunt", "of0", "up;"};

    private static final Checks checks = new Checks("ModelTest");
    private static long luck = 20261119;
    private static SkinLands real;
    private static NaiveLands naive;
    private static int calls;
    private static int run;

    private static int draw(int n) {
        luck = luck * 6364136223846793005L + 1442695040888963407L;
        return (int) ((luck >>> 33) % n);
    }

    public static void main(String[] args) throws Exception {
        for (run = 0; run < RUNS; run++) {
            real = new SkinLands();
            naive = new NaiveLands();
            calls = 0;
            begin();
            while (calls < CALLS - 60 && checks.wrong() == 0) step();
        }
        checks.end();
    }

    /** Runs begin with a family of their own, so that few calls answer but BEYOND. */
    private static void begin() throws Exception {
        int some = draw(9);
        for (int k = 0; k < some; k++) {
            call("kin", draw(7), draw(3) == 0 ? 1 << draw(16) : draw(65536) & draw(65536));
            if (draw(2) == 0) call("change", k, 1, draw(k + 1));
            if (draw(2) == 0) call("change", k, 3, draw(4));
            if (draw(2) == 0) call("change", k, 4, draw(3) == 0 ? draw(1000) : 30 + draw(40));
            if (draw(3) == 0) call("change", k, 5, 0);
        }
        if (draw(2) == 0) call("seed", (int) luck);
    }

    private static void step() throws Exception {
        int pick = draw(20);
        if (pick == 0) {
            tellText();
        } else if (pick == 1) {
            tellLand();
        } else if (pick == 2) {
            feed(pieces());
            call("text");
        } else {
            String[] act = ACTS[draw(ACTS.length)].split("/");
            // Most acts that change much are left out often, so that what runs built up is asked about, too.
            boolean isRare = act[0].equals("undo") || act[0].equals("go") || act[0].equals("moles");
            if (isRare && draw(3) != 0) return;
            callDrawn(act[0], Integer.parseInt(act[1]));
        }
    }

    private static void callDrawn(String act, int n) throws Exception {
        int[] a = new int[n];
        for (int i = 0; i < n; i++) a[i] = drawnArgument();
        if (draw(12) != 0) fit(act, a);
        call(act, a);
    }

    private static int drawnArgument() {
        switch (draw(12)) {
            case 0: return draw(2) == 0 ? Integer.MIN_VALUE : Integer.MAX_VALUE;
            case 1: return -1 - draw(3);
            case 2: return draw(70000);
            case 3: case 4: return draw(110);
            case 5: case 6: return draw(20);
            default: return draw(8);
        }
    }

    /** Arguments that the act takes, mostly, and its edges. */
    private static void fit(String act, int[] a) {
        switch (act) {
            case "kin": set(a, edge(0, 6), draw(65536)); break;
            case "of": set(a, draw(8), draw(9)); break;
            case "change": {
                int what = draw(6);
                int[] most = {6, 7, 65535, 3, 999, 1};
                set(a, draw(8), what, edge(what == 1 ? -1 : 0, most[what]));
                break;
            }
            case "birth": set(a, draw(7), draw(8), draw(8)); break;
            case "who": case "when": set(a, edge(0, 15)); break;
            case "common": set(a, draw(8), draw(8)); break;
            case "turned": set(a, draw(65536), edge(0, 3), edge(0, 1)); break;
            case "go": set(a, draw(4) == 0 ? edge(1, 60) : 1 + draw(4)); break;
            case "now": set(a, draw(7)); break;
            case "ahead": set(a, draw(8), 2 + 2 * draw(3), edge(0, 100)); break;
            case "known": set(a, edge(0, 100)); break;
            case "many": set(a, edge(0, 16)); break;
            case "match": set(a, draw(8), draw(8), edge(0, 16)); break;
            case "turnFor": case "kindFor": set(a, draw(8), draw(2) == 0 ? draw(6) : edge(0, 40)); break;
            case "hide": set(a, draw(16), edge(0, 16)); break;
            case "shows": set(a, draw(8), draw(16)); break;
            case "fits": case "kinds": case "spots": set(a, draw(4), draw(8)); break;
            case "moles": set(a, edge(1, 20)); break;
            case "odds": set(a, edge(0, 15), draw(2)); break;
            case "seed": set(a, (int) luck); break;
            case "feed": set(a, (int) luck, edge(1, 4)); break;
            case "hold": set(a, draw(10), draw(9) - 1); break;
            case "as": set(a, draw(10), draw(7)); break;
            case "sheet": {
                int[] bits = {8, 16, 32, 32, 0};
                set(a, draw(4), bits[draw(5)], draw(2) == 0 ? draw(9) : edge(0, 40));
                break;
            }
            case "write": set(a, draw(4), draw(9), draw(3) == 0 ? (int) luck : draw(70000) - 1000); break;
            case "copy": set(a, draw(4), draw(5), draw(4), draw(5), draw(5)); break;
            case "load": case "judge": set(a, draw(4)); break;
            case "count": set(a, draw(8)); break;
            case "status": set(a, draw(8) - 1); break;
            default: break;
        }
    }

    private static int edge(int least, int most) {
        switch (draw(8)) {
            case 0: return least;
            case 1: return most;
            case 2: return draw(4) == 0 ? least - 1 : least;
            case 3: return draw(4) == 0 ? most + 1 : most;
            default: return least + draw(most - least + 1);
        }
    }

    private static void set(int[] a, int... values) {
        System.arraycopy(values, 0, a, 0, values.length);
    }

    /** A sheet that tells what is KNOWN, with a few numbers of it let go or spoilt; then all that asks for it. */
    private static void tellLand() throws Exception {
        int s = draw(4);
        int n = draw(2) == 0 ? draw(4) : draw(10);
        int kin = draw(8);
        call("sheet", s, draw(5) == 0 ? 16 : 32, n);
        call("image");
        if (draw(2) == 0) call("change", kin, 3, draw(4));
        if (draw(2) == 0) call("change", kin, 0, draw(7));
        if (draw(2) == 0) call("change", kin, 2, draw(65536) & draw(65536));
        for (int i = 0; i < n; i++) {
            long known = call("known", i);
            if (draw(4) != 0) call("write", s, i, draw(15) == 0 ? draw(65536) : (int) known);
            else call("write", s, i, -1);
        }
        if (draw(2) == 0) call("undo");
        call("fits", s, kin);
        call("kinds", s, kin);
        call("spots", s, kin);
        if (draw(2) == 0) call("judge", s);
        for (int i = 0; i < 3; i++) call("write", s, i, (int) call("of", i, 6));
        call("judge", s);
    }

    private static void tellText() throws Exception {
        if (draw(2) == 0) call("undo");
        StringBuilder text = new StringBuilder();
        int items = 1 + draw(4);
        for (int i = 0; i < items; i++) {
            if (i > 0) text.append(draw(3) == 0 ? " ; " : ";");
            if (draw(4) == 0) {
                text.append("aged ").append(draw(6)).append(' ').append(draw(1010));
                continue;
            }
            text.append(NaiveLands.WORDS[draw(7)]);
            if (draw(3) == 0) text.append(" of ").append(draw(4));
            if (draw(3) != 0) text.append(draw(2) == 0 ? " mark " : " mark").append(draw(66000));
            if (draw(3) == 0) text.append("turn").append(draw(9) == 0 ? 4 : draw(4));
            if (draw(5) == 0) text.append(draw(3) == 0 ? " up " : " up");
        }
        if (draw(12) == 0) text.append(PIECES[draw(PIECES.length)]);
        feed(text.toString());
        call("text");
    }

    private static String pieces() {
        StringBuilder text = new StringBuilder();
        for (int i = draw(9); i >= 0; i--) text.append(PIECES[draw(PIECES.length)]);
        return text.toString();
    }

    private static void feed(String text) throws Exception {
        for (int i = 0; i < text.length(); i += 4) {
            int bytes = 0;
            int n = Math.min(4, text.length() - i);
            for (int j = 0; j < n; j++) bytes = bytes << 8 | text.charAt(i + j);
            call("feed", bytes, n);
        }
    }

    private static long call(String act, int... a) throws Exception {
        if (calls >= CALLS) return 0;
        calls++;
        Class<?>[] ints = new Class<?>[a.length];
        Arrays.fill(ints, int.class);
        Object[] boxed = new Object[a.length];
        for (int i = 0; i < a.length; i++) boxed[i] = a[i];
        Method method = SkinLands.class.getMethod(act, ints);
        long got = ((Number) method.invoke(real, boxed)).longValue();
        long want = naive.call(act, a);
        checks.part("run " + run + ", call " + calls);
        checks.due(act + Arrays.toString(a), got, want);
        return got;
    }
}
