import java.math.BigInteger;
import java.util.ArrayList;
import java.util.Arrays;
import java.util.List;
import java.util.TreeSet;
import java.util.function.Predicate;
import java.util.regex.Matcher;
import java.util.regex.Pattern;

/**
 * The document told a second time, as slowly as it likes: sets of CELLS are sets, each KIND is a class,
 * TOKENS are found by a pattern, and what will be is played out on copies. ModelTest holds SkinLands to it.
 */
final class NaiveLands {
    static final String[] WORDS = {"kin", "cousin", "uncle", "child", "baby", "adopted", "sailor"};

    /** A finding on its way out of an act. */
    private static final class Finding extends RuntimeException {
        private static final long serialVersionUID = 1;
        final int which;

        Finding(int which) {
            super(null, null, false, false);
            this.which = which;
        }
    }

    private static final int BEYOND = 0;
    private static final int FULL = 1;
    private static final int KIND = 2;
    private static final int NONE = 3;
    private static final int STATE = 4;
    private static final int MISSING = 5;
    private static final int SIZE = 6;

    private static void ask(boolean isSo, int elseFinding) {
        if (!isSo) throw new Finding(elseFinding);
    }

    // ---- sets of CELLS

    private static TreeSet<Integer> cellsOf(int bits) {
        TreeSet<Integer> cells = new TreeSet<>();
        for (int cell = 0; cell < 16; cell++) if ((bits & 1 << cell) != 0) cells.add(cell);
        return cells;
    }

    private static int bitsOf(Iterable<Integer> members) {
        int bits = 0;
        for (int member : members) bits |= 1 << member;
        return bits;
    }

    private static TreeSet<Integer> turnedSet(TreeSet<Integer> cells, int t) {
        TreeSet<Integer> after = new TreeSet<>(cells);
        for (int i = 0; i < t; i++) {
            TreeSet<Integer> next = new TreeSet<>();
            for (int cell : after) next.add(4 * (cell % 4) + 3 - cell / 4);
            after = next;
        }
        return after;
    }

    private static TreeSet<Integer> mirroredSet(TreeSet<Integer> cells) {
        TreeSet<Integer> after = new TreeSet<>();
        for (int cell : cells) after.add(4 * (cell / 4) + 3 - cell % 4);
        return after;
    }

    private static boolean areBeside(int a, int b) {
        boolean inRow = a / 4 == b / 4 && Math.abs(a % 4 - b % 4) == 1;
        boolean inColumn = a % 4 == b % 4 && Math.abs(a / 4 - b / 4) == 1;
        return inRow || inColumn;
    }

    // ---- KINDS

    private static class Kin {
        int number;
        int parent = -1;
        TreeSet<Integer> mark = new TreeSet<>();
        int turn;
        int age;
        boolean laid = true;
        World world;

        TreeSet<Integer> shown() {
            return turnedSet(mark, turn);
        }

        int grows() {
            return 1;
        }

        int fades() {
            return 60;
        }

        final void live() {
            for (int i = grows(); i > 0; i--) grow();
            if (fades() != 0 && age >= fades() && !mark.isEmpty()) mark.remove(mark.last());
            age = age == 999 ? 999 : age + 1;
        }

        private void grow() {
            if (mark.isEmpty()) {
                mark.add(number * 2);
                return;
            }
            for (int cell = 0; cell < 16; cell++) {
                int candidate = cell;
                if (!mark.contains(cell) && mark.stream().anyMatch(other -> areBeside(candidate, other))) {
                    mark.add(cell);
                    return;
                }
            }
        }
    }

    private static class Cousin extends Kin {
        @Override
        TreeSet<Integer> shown() {
            return mirroredSet(super.shown());
        }

        @Override
        int fades() {
            return super.fades() - 20;
        }
    }

    private static class Child extends Cousin {
        @Override
        TreeSet<Integer> shown() {
            TreeSet<Integer> cells = super.shown();
            if (parent != -1) cells.addAll(world.kin.get(parent).mark);
            return cells;
        }

        @Override
        int grows() {
            return 2 * super.grows();
        }
    }

    private static final class Baby extends Child {
        @Override
        TreeSet<Integer> shown() {
            return age == 0 ? new TreeSet<>() : super.shown();
        }

        @Override
        int grows() {
            return age < 2 ? 0 : super.grows();
        }
    }

    private static class Uncle extends Kin {
        @Override
        TreeSet<Integer> shown() {
            TreeSet<Integer> cells = cellsOf(65535);
            cells.removeAll(super.shown());
            return cells;
        }

        @Override
        int grows() {
            return 0;
        }

        @Override
        int fades() {
            return 0;
        }
    }

    private static final class Sailor extends Uncle {
        @Override
        TreeSet<Integer> shown() {
            TreeSet<Integer> cells = super.shown();
            cells.removeIf(cell -> cell < 4);
            return cells;
        }

        @Override
        int grows() {
            return super.grows() + (world.year % 4 == 0 ? 1 : 0);
        }

        @Override
        int fades() {
            return 0;
        }
    }

    private static final class Adopted extends Kin {
        @Override
        TreeSet<Integer> shown() {
            TreeSet<Integer> cells = new TreeSet<>(mark);
            cells.add(5);
            return cells;
        }

        @Override
        int grows() {
            return laid ? super.grows() : 0;
        }

        @Override
        int fades() {
            return 0;
        }
    }

    private static Kin newKin(int kind) {
        switch (kind) {
            case 0: return new Kin();
            case 1: return new Cousin();
            case 2: return new Uncle();
            case 3: return new Child();
            case 4: return new Baby();
            case 5: return new Adopted();
            default: return new Sailor();
        }
    }

    private static final Class<?>[] CLASSES =
        {Kin.class, Cousin.class, Uncle.class, Child.class, Baby.class, Adopted.class, Sailor.class};

    private static int kindOf(Kin one) {
        return Arrays.asList(CLASSES).indexOf(one.getClass());
    }

    // ---- all that an image keeps

    private static final class World {
        final List<Kin> kin = new ArrayList<>();
        final int[] held = new int[10];
        int year;
        int z = 1;

        World() {
            Arrays.fill(held, -1);
        }

        World copied() {
            World other = new World();
            for (int i = 0; i < kin.size(); i++) other.put(i, as(kin.get(i), kindOf(kin.get(i))));
            System.arraycopy(held, 0, other.held, 0, 10);
            other.year = year;
            other.z = z;
            return other;
        }

        private static Kin as(Kin one, int kind) {
            Kin other = newKin(kind);
            other.parent = one.parent;
            other.mark = new TreeSet<>(one.mark);
            other.turn = one.turn;
            other.age = one.age;
            other.laid = one.laid;
            return other;
        }

        void put(int i, Kin one) {
            one.number = i;
            one.world = this;
            if (i == kin.size()) kin.add(one); else kin.set(i, one);
        }

        int add(int kind, int mark) {
            Kin one = newKin(kind);
            one.mark = cellsOf(mark);
            put(kin.size(), one);
            return one.number;
        }

        World behind(int years) {
            World other = copied();
            other.live(years);
            return other;
        }

        void live(int years) {
            for (int i = 0; i < years; i++) {
                for (Kin one : kin) one.live();
                if (year < 99999) year++;
            }
        }

        TreeSet<Integer> known() {
            TreeSet<Integer> cells = new TreeSet<>();
            for (Kin one : kin) if (one.laid) cells.addAll(one.shown());
            return cells;
        }

        TreeSet<Integer> common(int a, int b) {
            TreeSet<Integer> cells = kin.get(a).shown();
            cells.retainAll(kin.get(b).shown());
            return cells;
        }

        TreeSet<Integer> shownBy(int some) {
            TreeSet<Integer> cells = new TreeSet<>();
            for (Kin one : kin) if ((some >> one.number & 1) == 1) cells.addAll(one.shown());
            return cells;
        }

        int get(int i, int what) {
            Kin one = kin.get(i);
            switch (what) {
                case 0: return kindOf(one);
                case 1: return one.parent;
                case 2: return bitsOf(one.mark);
                case 3: return one.turn;
                case 4: return one.age;
                case 5: return one.laid ? 1 : 0;
                case 6: return bitsOf(one.shown());
                case 7: return one.grows();
                default: return one.fades();
            }
        }

        void set(int i, int what, int v) {
            Kin one = kin.get(i);
            switch (what) {
                case 0: put(i, as(one, v)); break;
                case 1: one.parent = v; break;
                case 2: one.mark = cellsOf(v); break;
                case 3: one.turn = v; break;
                case 4: one.age = v; break;
                default: one.laid = v == 1; break;
            }
        }

        int draw() {
            z = z * 1103515245 + 12345;
            return z >>> 8;
        }

        void flip(int i, int cell) {
            if (!kin.get(i).mark.remove(cell)) kin.get(i).mark.add(cell);
        }
    }

    private World world = new World();
    private World kept;
    private final StringBuilder tape = new StringBuilder();
    private final int[][] rows = new int[4][];
    private final int[] bits = new int[4];
    private final int[] findings = new int[7];

    /** One act by its name. */
    long call(String act, int[] a) {
        try {
            return answer(act, a);
        } catch (Finding finding) {
            findings[finding.which]++;
            return -1000001 - finding.which;
        }
    }

    private void askIn(int v, int least, int most) {
        ask(v >= least && v <= most, BEYOND);
    }

    private void askKin(int i) {
        askIn(i, 0, world.kin.size() - 1);
    }

    private void askTwo(int a, int b) {
        askKin(a);
        askKin(b);
        ask(a != b, BEYOND);
    }

    private void askSheet(int s) {
        askIn(s, 0, 3);
        ask(rows[s] != null, MISSING);
    }

    private long answer(String act, int[] a) {
        switch (act) {
            case "kin": case "of": case "change": case "birth": case "who": case "common": case "turned":
                return answerKin(act, a);
            case "go": case "now": case "ahead": case "known": case "when": case "many": case "match":
                return answerYears(act, a);
            case "turnFor": case "kindFor": case "cover": case "hide": case "marry": case "shows":
                return answerLying(act, a);
            case "fits": case "kinds": case "spots": case "moles": case "odds": case "seed":
                return answerTold(act, a);
            case "feed": case "wipe": case "text": case "hold": case "as":
                return answerTexts(act, a);
            case "sheet": case "write": case "copy": case "load": case "judge":
                return answerSheets(act, a);
            default:
                return answerImages(act, a);
        }
    }

    private long answerKin(String act, int[] a) {
        switch (act) {
            case "kin":
                askIn(a[0], 0, 6);
                askIn(a[1], 0, 65535);
                ask(world.kin.size() < 8, FULL);
                return world.add(a[0], a[1]);
            case "of":
                askKin(a[0]);
                askIn(a[1], 0, 8);
                return world.get(a[0], a[1]);
            case "change": {
                askKin(a[0]);
                askIn(a[1], 0, 5);
                int[] least = {0, -1, 0, 0, 0, 0};
                int[] most = {6, world.kin.size() - 1, 65535, 3, 999, 1};
                askIn(a[2], least[a[1]], most[a[1]]);
                ask(a[1] != 1 || a[2] != a[0], BEYOND);
                int was = world.get(a[0], a[1]);
                world.set(a[0], a[1], a[2]);
                return was;
            }
            case "birth": {
                askIn(a[0], 0, 6);
                askTwo(a[1], a[2]);
                ask(world.kin.size() < 8, FULL);
                TreeSet<Integer> mark = new TreeSet<>(world.kin.get(a[1]).mark);
                mark.retainAll(world.kin.get(a[2]).mark);
                int i = world.add(a[0], bitsOf(mark));
                world.set(i, 1, a[1]);
                return i;
            }
            case "who": {
                askIn(a[0], 0, 15);
                TreeSet<Integer> who = new TreeSet<>();
                for (Kin one : world.kin) if (one.shown().contains(a[0])) who.add(one.number);
                return bitsOf(who);
            }
            case "common":
                askKin(a[0]);
                askKin(a[1]);
                return bitsOf(world.common(a[0], a[1]));
            default: {
                askIn(a[0], 0, 65535);
                askIn(a[1], 0, 3);
                askIn(a[2], 0, 1);
                TreeSet<Integer> cells = turnedSet(cellsOf(a[0]), a[1]);
                return bitsOf(a[2] == 1 ? mirroredSet(cells) : cells);
            }
        }
    }

    private long answerYears(String act, int[] a) {
        switch (act) {
            case "go":
                askIn(a[0], 1, 60);
                ask(world.year + a[0] <= 99999, STATE);
                world.live(a[0]);
                return bitsOf(world.known());
            case "now":
                askIn(a[0], 0, 6);
                return now(a[0]);
            case "ahead":
                askKin(a[0]);
                ask(a[1] == 2 || a[1] == 4 || a[1] == 6, BEYOND);
                askIn(a[2], 0, 100);
                return world.behind(a[2]).get(a[0], a[1]);
            case "known":
                askIn(a[0], 0, 100);
                return bitsOf(world.behind(a[0]).known());
            case "when":
                askIn(a[0], 0, 15);
                return firstYear(w -> w.known().contains(a[0]));
            case "many":
                askIn(a[0], 0, 16);
                return firstYear(w -> w.known().size() >= a[0]);
            default:
                askTwo(a[0], a[1]);
                askIn(a[2], 0, 16);
                return firstYear(w -> w.common(a[0], a[1]).size() >= a[2]);
        }
    }

    private int firstYear(Predicate<World> isSo) {
        World w = world.copied();
        for (int n = 0; n <= 200; n++, w.live(1)) if (isSo.test(w)) return n;
        throw new Finding(NONE);
    }

    private long now(int what) {
        switch (what) {
            case 0: return world.year;
            case 1: return bitsOf(world.known());
            case 2: return 65535 - bitsOf(world.known());
            case 3: return laid();
            case 4:
                return world.kin.stream()
                    .sorted((a, b) -> b.shown().size() - a.shown().size())
                    .mapToInt(one -> one.number).findFirst().orElse(-1);
            case 5: return world.kin.stream().mapToInt(one -> one.mark.size()).sum();
            default: {
                TreeSet<Integer> once = new TreeSet<>();
                for (int cell = 0; cell < 16; cell++) {
                    int asked = cell;
                    if (world.kin.stream().filter(one -> one.laid && one.shown().contains(asked)).count() == 1) {
                        once.add(cell);
                    }
                }
                return bitsOf(once);
            }
        }
    }

    private int laid() {
        return world.kin.stream().filter(one -> one.laid).mapToInt(one -> 1 << one.number).sum();
    }

    private long answerLying(String act, int[] a) {
        int everyone = (1 << world.kin.size()) - 1;
        switch (act) {
            case "turnFor": case "kindFor": {
                askKin(a[0]);
                askIn(a[1], 0, 40);
                int choices = act.equals("turnFor") ? 4 : 7;
                int[] sizes = new int[choices];
                for (int v = 0; v < choices; v++) {
                    World w = world.copied();
                    w.set(a[0], choices == 4 ? 3 : 0, v);
                    w.live(a[1]);
                    sizes[v] = w.known().size();
                }
                int most = Arrays.stream(sizes).max().getAsInt();
                for (int v = 0; v < choices; v++) if (sizes[v] == most) return v;
                return -7;
            }
            case "cover":
                for (int n = 0; n <= 8; n++) {
                    for (int some = 0; some <= everyone; some++) {
                        boolean isAll = world.shownBy(some).equals(world.shownBy(everyone));
                        if (Integer.bitCount(some) == n && isAll) return some;
                    }
                }
                return -7;
            case "hide":
                askIn(a[0], 0, 15);
                askIn(a[1], 0, 16);
                for (int n = 0; n <= 8; n++) {
                    for (int some = 0; some <= everyone; some++) {
                        if (Integer.bitCount(some) != n) continue;
                        TreeSet<Integer> cells = world.shownBy(some);
                        if (!cells.contains(a[0]) && cells.size() >= a[1]) return some;
                    }
                }
                throw new Finding(NONE);
            case "marry":
                ask(world.kin.size() >= 2, NONE);
                for (int n = 16; n >= 0; n--) {
                    for (int pair = 0; pair < 64; pair++) {
                        boolean isPair = pair / 8 < pair % 8 && pair % 8 < world.kin.size();
                        if (isPair && world.common(pair / 8, pair % 8).size() == n) return pair;
                    }
                }
                return -7;
            default: {
                askKin(a[0]);
                askIn(a[1], 0, 15);
                ask(world.kin.get(a[0]).shown().contains(a[1]), NONE);
                World w = world.copied();
                int n = -1;
                while (n < 200 && w.kin.get(a[0]).shown().contains(a[1])) {
                    n++;
                    w.live(1);
                }
                return n;
            }
        }
    }

    private boolean isAsTold(World w, int s) {
        for (int i = 0; i < rows[s].length; i++, w.live(1)) {
            if (rows[s][i] != -1 && rows[s][i] != bitsOf(w.known())) return false;
        }
        return true;
    }

    private long answerTold(String act, int[] a) {
        switch (act) {
            case "fits": case "kinds": case "spots": {
                askSheet(a[0]);
                askKin(a[1]);
                int choices = act.equals("fits") ? 4 : act.equals("kinds") ? 7 : 16;
                TreeSet<Integer> fitting = new TreeSet<>();
                for (int v = 0; v < choices; v++) {
                    World w = world.copied();
                    if (choices == 16) w.flip(a[1], v); else w.set(a[1], choices == 4 ? 3 : 0, v);
                    if (isAsTold(w, a[0])) fitting.add(v);
                }
                return bitsOf(fitting);
            }
            case "moles":
                askIn(a[0], 1, 20);
                ask(world.year + a[0] <= 99999, STATE);
                for (int i = 0; i < a[0]; i++) {
                    int first = world.draw();
                    int second = world.draw();
                    if (first % 8 < world.kin.size()) world.flip(first % 8, second % 16);
                    world.live(1);
                }
                return bitsOf(world.known());
            case "odds": {
                askIn(a[0], 0, 15);
                askIn(a[1], 0, 1);
                BigInteger above = BigInteger.valueOf(world.known().size()).pow(a[0]);
                BigInteger below = BigInteger.valueOf(16).pow(a[0]);
                return (a[1] == 0 ? above : below).divide(above.gcd(below)).longValueExact();
            }
            default: {
                int was = world.z;
                world.z = a[0];
                return was;
            }
        }
    }

    private long answerTexts(String act, int[] a) {
        switch (act) {
            case "feed": {
                askIn(a[1], 1, 4);
                ask(tape.length() + a[1] <= 120, FULL);
                String all = new String(new char[] {(char) (a[0] >> 24 & 255), (char) (a[0] >> 16 & 255),
                    (char) (a[0] >> 8 & 255), (char) (a[0] & 255)});
                tape.append(all.substring(4 - a[1]));
                return tape.length();
            }
            case "wipe": {
                int had = tape.length();
                tape.setLength(0);
                return had;
            }
            case "text":
                return readTape();
            case "hold":
                askIn(a[0], 0, 9);
                askIn(a[1], -1, world.kin.size() - 1);
                world.held[a[0]] = a[1];
                return 1;
            default: {
                askIn(a[0], 0, 9);
                askIn(a[1], 0, 6);
                ask(world.held[a[0]] != -1, MISSING);
                ask(CLASSES[a[1]].isInstance(world.kin.get(world.held[a[0]])), KIND);
                return world.held[a[0]];
            }
        }
    }

    // ---- TEXTS: TOKENS first, all of them; then what may stand where, as a table of states

    private static final Pattern TOKEN = Pattern.compile(" *([a-z]+|[0-9]+|[^ ])", Pattern.DOTALL);

    private int readTape() {
        List<String> tokens = new ArrayList<>();
        List<Integer> places = new ArrayList<>();
        Matcher matcher = TOKEN.matcher(tape);
        while (matcher.find()) {
            tokens.add(matcher.group(1));
            places.add(matcher.start(1));
        }
        places.add(tape.length());
        tape.setLength(0);
        World told = world.copied();
        int[] items = {0};
        int wrong = firstWrong(told, tokens, items);
        if (wrong != -1) return -1 - places.get(wrong);
        world = told;
        return items[0];
    }

    /** The first TOKEN that can't stand (their number: the end), or -1. */
    private static int firstWrong(World told, List<String> tokens, int[] items) {
        String state = "item";
        int one = -1;
        for (int i = 0; i < tokens.size(); i++) {
            String token = tokens.get(i);
            int number = token.matches("[0-9]+") && new BigInteger(token).bitLength() < 31
                ? new BigInteger(token).intValue() : -1;
            int kind = Arrays.asList(WORDS).indexOf(token);
            if (state.equals("item") && kind >= 0 && told.kin.size() < 8) {
                one = told.add(kind, 0);
                state = "new";
            } else if (state.equals("item") && token.equals("aged")) {
                state = "aged";
            } else if (state.equals("aged") && number >= 0 && number < told.kin.size()) {
                one = number;
                state = "age";
            } else if (state.equals("age") && number >= 0 && number <= 999) {
                told.set(one, 4, number);
                state = "end";
            } else if (state.equals("new") && token.equals("of")) {
                state = "of";
            } else if (state.equals("of") && number >= 0 && number < one) {
                told.set(one, 1, number);
                state = "after of";
            } else if ((state.equals("new") || state.equals("after of")) && token.equals("mark")) {
                state = "mark";
            } else if (state.equals("mark") && number >= 0 && number <= 65535) {
                told.set(one, 2, number);
                state = "after mark";
            } else if ((state.equals("new") || state.startsWith("after ")) && !state.equals("after turn")
                    && token.equals("turn")) {
                state = "turn";
            } else if (state.equals("turn") && number >= 0 && number <= 3) {
                told.set(one, 3, number);
                state = "after turn";
            } else if ((state.equals("new") || state.startsWith("after ")) && token.equals("up")) {
                told.set(one, 5, 0);
                state = "end";
            } else if ((state.equals("new") || state.equals("end") || state.startsWith("after "))
                    && token.equals(";")) {
                items[0]++;
                state = "item";
            } else {
                return i;
            }
        }
        boolean isWhole = state.equals("new") || state.equals("end") || state.startsWith("after ");
        items[0]++;
        return isWhole ? -1 : tokens.size();
    }

    private long answerSheets(String act, int[] a) {
        switch (act) {
            case "sheet":
                askIn(a[0], 0, 3);
                ask(List.of(0, 8, 16, 32).contains(a[1]), BEYOND);
                ask(a[2] >= 0, SIZE);
                ask(a[2] <= 40, BEYOND);
                bits[a[0]] = a[1];
                rows[a[0]] = a[1] == 0 ? null : new int[a[2]];
                return a[1] == 0 ? 0 : a[2];
            case "write":
                askSheet(a[0]);
                askIn(a[1], 0, rows[a[0]].length - 1);
                rows[a[0]][a[1]] = a[2] << 32 - bits[a[0]] >> 32 - bits[a[0]];
                return 1;
            case "copy": {
                askIn(a[0], 0, 3);
                askIn(a[2], 0, 3);
                ask(rows[a[0]] != null && rows[a[2]] != null, MISSING);
                ask(bits[a[0]] == bits[a[2]], KIND);
                ask(a[1] >= 0 && a[3] >= 0 && a[4] >= 0, BEYOND);
                ask((long) a[1] + a[4] <= rows[a[0]].length, BEYOND);
                ask((long) a[3] + a[4] <= rows[a[2]].length, BEYOND);
                int[] asTheyWere = rows[a[0]].clone();
                for (int i = 0; i < a[4]; i++) rows[a[2]][a[3] + i] = asTheyWere[a[1] + i];
                return a[4];
            }
            case "load": {
                askSheet(a[0]);
                int came = 0;
                for (int number : rows[a[0]]) {
                    if (number < 0 || number > 65535 || came == world.kin.size()) break;
                    world.set(came++, 2, number);
                }
                return came;
            }
            default: {
                askSheet(a[0]);
                for (int i = 0; i < rows[a[0]].length; i++) {
                    if (i >= world.kin.size() || world.get(i, 6) != rows[a[0]][i]) return 1 + i;
                }
                return 0;
            }
        }
    }

    private long answerImages(String act, int[] a) {
        switch (act) {
            case "image":
                kept = world.copied();
                return 1;
            case "undo":
                ask(kept != null, NONE);
                world = kept.copied();
                return world.year;
            case "tear": {
                int was = kept == null ? 0 : 1;
                kept = null;
                return was;
            }
            case "count":
                askIn(a[0], 0, 7);
                return count(a[0]);
            case "status":
                askIn(a[0], -1, 6);
                return a[0] == -1 ? Arrays.stream(findings).sum() : findings[a[0]];
            default:
                throw new IllegalArgumentException(act);
        }
    }

    private long count(int what) {
        switch (what) {
            case 0: return world.year;
            case 1: return world.kin.size();
            case 2: return world.known().size();
            case 3: return Integer.bitCount(laid());
            case 4: return world.kin.stream().mapToInt(one -> one.age).sum();
            case 5: return tape.length();
            case 6: return world.z;
            default: return Arrays.stream(world.held).filter(one -> one != -1).count();
        }
    }
}
