/** Every promise by itself: ordinary inputs, the edges that the document names, and wrong inputs. */
public final class PromiseTest {
    private static final int BEYOND = Checks.BEYOND;
    private static final int FULL = Checks.FULL;
    private static final int KIND = Checks.KIND;
    private static final int NONE = Checks.NONE;
    private static final int STATE = Checks.STATE;
    private static final int MISSING = Checks.MISSING;
    private static final int SIZE = Checks.SIZE;
    private static final int ALL = 65535;
    private static final int[] FAR = {Integer.MIN_VALUE, -1000001, -2, 1 << 20, Integer.MAX_VALUE};

    private static final Checks checks = new Checks("PromiseTest");
    private static SkinLands x = new SkinLands();

    private static void due(String call, long got, long want) {
        checks.due(call, got, want);
    }

    private static void begin(String promise) {
        checks.part(promise);
        x = new SkinLands();
    }

    /** A new land with KIN of these MARKS. */
    private static void beginKin(String promise, int... marks) {
        begin(promise);
        for (int mark : marks) x.kin(0, mark);
    }

    private static void feedText(String text) {
        for (int i = 0; i < text.length(); i++) x.feed(text.charAt(i), 1);
    }

    private static int set(int... members) {
        int set = 0;
        for (int member : members) set |= 1 << member;
        return set;
    }

    private static void sheetOf(int s, int bits, int... numbers) {
        x.sheet(s, bits, numbers.length);
        for (int i = 0; i < numbers.length; i++) x.write(s, i, numbers[i]);
    }

    public static void main(String[] args) {
        newObject();
        kin();
        of();
        shownOfEachKind();
        grownOfEachKind();
        fadedOfEachKind();
        change();
        birth();
        who();
        common();
        turned();
        go();
        goOfEachKind();
        now();
        ahead();
        known();
        when();
        many();
        match();
        turnFor();
        kindFor();
        cover();
        hide();
        marry();
        shows();
        fits();
        kinds();
        spots();
        moles();
        odds();
        seed();
        feed();
        wipe();
        text();
        textFaults();
        hold();
        as();
        sheet();
        write();
        copy();
        load();
        judge();
        image();
        undo();
        tear();
        count();
        status();
        fullFamily();
        farArguments();
        checks.end();
    }

    private static void newObject() {
        begin("1 a new object");
        due("count(0)", x.count(0), 0);
        due("count(1)", x.count(1), 0);
        due("count(2)", x.count(2), 0);
        due("count(3)", x.count(3), 0);
        due("count(4)", x.count(4), 0);
        due("count(5)", x.count(5), 0);
        due("count(6)", x.count(6), 1);
        due("count(7)", x.count(7), 0);
        due("status(-1)", x.status(-1), 0);
        due("undo", x.undo(), NONE);
        due("tear", x.tear(), 0);
        for (int s = 0; s < 4; s++) due("load", x.load(s), MISSING);
        for (int spot = 0; spot < 10; spot++) due("as", x.as(spot, 0), MISSING);
        due("of(0, 0)", x.of(0, 0), BEYOND);
        x.kin(3, 9);
        due("PARENT at first", x.of(0, 1), -1);
        due("MARK told", x.of(0, 2), 9);
        due("TURN at first", x.of(0, 3), 0);
        due("AGE at first", x.of(0, 4), 0);
        due("LAID at first", x.of(0, 5), 1);
        SkinLands other = new SkinLands();
        due("another object has no KIN", other.count(1), 0);
    }

    private static void kin() {
        begin("2 kin");
        due("kind -1", x.kin(-1, 0), BEYOND);
        due("kind 7", x.kin(7, 0), BEYOND);
        due("mark -1", x.kin(0, -1), BEYOND);
        due("mark 65536", x.kin(0, 65536), BEYOND);
        for (int k = 0; k < 7; k++) due("kin(k, k)", x.kin(k, k), k);
        due("the 8th", x.kin(6, ALL), 7);
        due("a 9th", x.kin(0, 0), FULL);
        due("BEYOND ahead of FULL", x.kin(7, 0), BEYOND);
        due("BEYOND ahead of FULL", x.kin(0, 65536), BEYOND);
        for (int k = 0; k < 7; k++) {
            due("KIND", x.of(k, 0), k);
            due("MARK", x.of(k, 2), k);
        }
        due("KIND", x.of(7, 0), 6);
        due("MARK", x.of(7, 2), ALL);
        due("count(1)", x.count(1), 8);
    }

    private static void of() {
        begin("3 of");
        due("nobody there", x.of(0, 0), BEYOND);
        x.kin(0, 1);
        x.kin(1, 2);
        x.change(1, 1, 0);
        x.change(1, 3, 1);
        x.change(1, 4, 7);
        x.change(1, 5, 0);
        int[] due = {1, 0, 2, 1, 7, 0, set(4), 1, 40};
        for (int what = 0; what < 9; what++) due("of(1, " + what + ")", x.of(1, what), due[what]);
        due("kin -1", x.of(-1, 0), BEYOND);
        due("kin 2", x.of(2, 0), BEYOND);
        due("what -1", x.of(0, -1), BEYOND);
        due("what 9", x.of(0, 9), BEYOND);
    }

    private static void shownOfEachKind() {
        begin("3 of: SHOWS");
        int mark = set(0, 1, 4); // rows: XX.. / X...
        for (int kind = 0; kind < 7; kind++) x.kin(kind, mark);
        x.kin(0, set(0, 11)); // the parent
        due("KIN", x.of(0, 6), mark);
        due("COUSIN", x.of(1, 6), set(3, 2, 7));
        due("UNCLE", x.of(2, 6), ALL & ~mark);
        due("CHILD without a PARENT", x.of(3, 6), set(3, 2, 7));
        due("BABY of AGE 0", x.of(4, 6), 0);
        due("ADOPTED", x.of(5, 6), mark | set(5));
        due("SAILOR", x.of(6, 6), ALL & ~mark & ~15);
        x.change(4, 4, 1);
        due("BABY of AGE 1", x.of(4, 6), set(3, 2, 7));
        for (int k = 0; k < 7; k++) {
            x.change(k, 1, 7);
            x.change(k, 3, 1);
        }
        x.change(7, 3, 2);
        int once = set(3, 7, 2); // row 0 has come to column 3
        int mirrored = set(0, 4, 1);
        due("KIN TURNED", x.of(0, 6), once);
        due("COUSIN TURNED, then MIRRORED", x.of(1, 6), mirrored);
        due("UNCLE TURNED", x.of(2, 6), ALL & ~once);
        due("CHILD and its PARENT's MARK, not TURNED", x.of(3, 6), mirrored | set(0, 11));
        due("BABY and its PARENT's MARK", x.of(4, 6), mirrored | set(0, 11));
        due("ADOPTED isn't TURNED", x.of(5, 6), mark | set(5));
        due("SAILOR TURNED", x.of(6, 6), ALL & ~once & ~15);
        x.change(4, 4, 0);
        due("BABY of AGE 0 shows nothing of its PARENT", x.of(4, 6), 0);
        x.change(7, 0, 2);
        due("the PARENT's MARK, not what it SHOWS", x.of(3, 6), mirrored | set(0, 11));
        x.change(7, 2, 1 << 15);
        due("the PARENT's MARK of now", x.of(3, 6), mirrored | set(15));
        x.change(7, 1, 3);
        due("PARENTS of one another", x.of(3, 6), mirrored | set(15));
        x.change(0, 3, 3);
        due("KIN TURNED three times", x.of(0, 6), set(12, 8, 13));
        x.change(1, 3, 2);
        due("COUSIN TURNED twice", x.of(1, 6), set(12, 13, 8));
    }

    private static void grownOfEachKind() {
        begin("3 of: GROWS");
        for (int kind = 0; kind < 7; kind++) x.kin(kind, 0);
        int[] due = {1, 1, 0, 2, 0, 1, 1};
        for (int k = 0; k < 7; k++) due("GROWS of KIND " + k, x.of(k, 7), due[k]);
        x.change(4, 4, 1);
        due("BABY of AGE 1", x.of(4, 7), 0);
        x.change(4, 4, 2);
        due("BABY of AGE 2", x.of(4, 7), 2);
        x.change(5, 5, 0);
        due("ADOPTED who isn't LAID", x.of(5, 7), 0);
        for (int k = 0; k < 5; k++) x.change(k, 5, 0);
        due("KIN who isn't LAID", x.of(0, 7), 1);
        due("CHILD who isn't LAID", x.of(3, 7), 2);
        for (int year = 1; year <= 8; year++) {
            x.go(1);
            due("SAILOR in YEAR " + year, x.of(6, 7), year % 4 == 0 ? 1 : 0);
        }
    }

    private static void fadedOfEachKind() {
        begin("3 of: FADES");
        int[] due = {60, 40, 0, 40, 40, 0, 0};
        for (int kind = 0; kind < 7; kind++) {
            x.kin(kind, 0);
            due("FADES of KIND " + kind, x.of(kind, 8), due[kind]);
        }
    }

    private static void change() {
        begin("4 change");
        due("nobody there", x.change(0, 0, 0), BEYOND);
        x.kin(1, 3);
        x.kin(2, 5);
        int[] was = {1, -1, 3, 0, 0, 1};
        int[] least = {0, -1, 0, 0, 0, 0};
        int[] most = {6, 1, ALL, 3, 999, 1};
        for (int what = 0; what < 6; what++) {
            due("below what " + what, x.change(0, what, least[what] - 1), BEYOND);
            due("above what " + what, x.change(0, what, most[what] + 1), BEYOND);
            due("as it was, what " + what, x.of(0, what), was[what]);
            due("most of what " + what, x.change(0, what, most[what]), was[what]);
            due("is most of what " + what, x.of(0, what), most[what]);
            due("least of what " + what, x.change(0, what, least[what]), most[what]);
            due("is least of what " + what, x.of(0, what), least[what]);
            due("back again", x.change(0, what, was[what]), least[what]);
            due("other one as it was", x.of(1, what), what == 0 ? 2 : what == 2 ? 5 : was[what]);
        }
        due("PARENT of itself", x.change(0, 1, 0), BEYOND);
        due("PARENT 1", x.change(0, 1, 1), -1);
        due("PARENT of one another", x.change(1, 1, 0), -1);
        due("to the same", x.change(0, 1, 1), 1);
        due("what -1", x.change(0, -1, 0), BEYOND);
        due("what 6", x.change(0, 6, 0), BEYOND);
        due("kin -1", x.change(-1, 2, 0), BEYOND);
        due("kin 2", x.change(2, 2, 0), BEYOND);
        due("status(0)", x.status(0), 18);
    }

    private static void birth() {
        beginKin("5 birth", 7, 14);
        x.change(0, 3, 1);
        due("one and the same", x.birth(0, 0, 0), BEYOND);
        due("no such first", x.birth(0, 2, 0), BEYOND);
        due("no such second", x.birth(0, 0, 2), BEYOND);
        due("below", x.birth(0, -1, 0), BEYOND);
        due("below", x.birth(0, 0, -1), BEYOND);
        due("kind -1", x.birth(-1, 0, 1), BEYOND);
        due("kind 7", x.birth(7, 0, 1), BEYOND);
        due("birth(4, 1, 0)", x.birth(4, 1, 0), 2);
        int[] due = {4, 1, 6, 0, 0, 1};
        for (int what = 0; what < 6; what++) due("of(2, " + what + ")", x.of(2, what), due[what]);
        due("birth(6, 0, 2)", x.birth(6, 0, 2), 3);
        due("PARENT is the first one", x.of(3, 1), 0);
        due("KIND", x.of(3, 0), 6);
        for (int k = 4; k < 8; k++) due("birth", x.birth(0, 0, 1), k);
        due("a 9th", x.birth(0, 0, 1), FULL);
        due("BEYOND ahead of FULL", x.birth(0, 1, 1), BEYOND);
        due("BEYOND ahead of FULL", x.birth(7, 0, 1), BEYOND);
    }

    private static void who() {
        beginKin("6 who", set(0, 15), set(0), set(5));
        x.kin(5, 0);
        x.change(1, 5, 0);
        due("who(0): LAID or not", x.who(0), set(0, 1));
        due("who(15)", x.who(15), set(0));
        due("who(5): what it SHOWS, not its MARK", x.who(5), set(2, 3));
        due("who(7)", x.who(7), 0);
        due("who(-1)", x.who(-1), BEYOND);
        due("who(16)", x.who(16), BEYOND);
        due("who(32)", x.who(32), BEYOND);
    }

    private static void common() {
        beginKin("7 common", 7, 14);
        x.kin(2, 7);
        x.change(1, 5, 0);
        due("common(0, 1)", x.common(0, 1), 6);
        due("common(1, 0)", x.common(1, 0), 6);
        due("with an UNCLE", x.common(1, 2), 8);
        due("with itself", x.common(2, 2), ALL & ~7);
        due("no such first", x.common(3, 0), BEYOND);
        due("no such second", x.common(0, 3), BEYOND);
        due("below", x.common(-1, 0), BEYOND);
        due("below", x.common(0, -1), BEYOND);
    }

    private static void turned() {
        begin("8 turned");
        for (int cell = 0; cell < 16; cell++) {
            int row = cell / 4;
            int column = cell % 4;
            due("not TURNED " + cell, x.turned(1 << cell, 0, 0), 1 << cell);
            due("once " + cell, x.turned(1 << cell, 1, 0), 1 << 4 * column + 3 - row);
            due("twice " + cell, x.turned(1 << cell, 2, 0), 1 << 4 * (3 - row) + 3 - column);
            due("three times " + cell, x.turned(1 << cell, 3, 0), 1 << 4 * (3 - column) + row);
            due("MIRRORED " + cell, x.turned(1 << cell, 0, 1), 1 << 4 * row + 3 - column);
            due("TURNED, then MIRRORED " + cell, x.turned(1 << cell, 1, 1), 1 << 4 * column + row);
        }
        due("nothing", x.turned(0, 3, 1), 0);
        due("all", x.turned(ALL, 3, 1), ALL);
        due("several", x.turned(set(0, 1, 6), 1, 0), set(3, 7, 10));
        due("cells -1", x.turned(-1, 0, 0), BEYOND);
        due("cells 65536", x.turned(65536, 0, 0), BEYOND);
        due("t -1", x.turned(0, -1, 0), BEYOND);
        due("t 4", x.turned(0, 4, 0), BEYOND);
        due("mirror -1", x.turned(0, 0, -1), BEYOND);
        due("mirror 2", x.turned(0, 0, 2), BEYOND);
    }

    private static void go() {
        beginKin("9 go", set(5), 0, 0);
        due("go(0)", x.go(0), BEYOND);
        due("go(61)", x.go(61), BEYOND);
        due("go(-1)", x.go(-1), BEYOND);
        due("no YEAR went by", x.count(0), 0);
        x.change(2, 5, 0);
        due("go(1)", x.go(1), set(5, 1, 2));
        due("the least BESIDE", x.of(0, 2), set(5, 1));
        due("an empty MARK: twice its number", x.of(1, 2), set(2));
        due("who isn't LAID grows, too", x.of(2, 2), set(4));
        due("AGE", x.of(0, 4), 1);
        due("YEAR", x.count(0), 1);
        x.go(1);
        due("the least BESIDE", x.of(0, 2), set(5, 1, 0));
        due("go(60)", x.go(60), ALL >> 1);
        due("YEAR", x.count(0), 62);
        due("CELL 15 lost with AGE 60, come and lost with AGE 61", x.of(0, 2), ALL >> 1);
        due("AGE", x.of(0, 4), 62);
        x.change(0, 4, 998);
        x.go(1);
        due("AGE 999", x.of(0, 4), 999);
        x.go(1);
        due("999 at most", x.of(0, 4), 999);
        beginKin("9 go: BESIDE", set(3), set(4), set(15), set(12), set(7));
        x.go(1);
        due("behind the row's end", x.of(0, 2), set(3, 2));
        due("ahead of the row's begin", x.of(1, 2), set(4, 0));
        due("the last one", x.of(2, 2), set(15, 11));
        due("the last row", x.of(3, 2), set(12, 8));
        due("above", x.of(4, 2), set(7, 3));
        x.change(0, 2, set(0, 1, 2, 3));
        x.go(1);
        due("below", x.of(0, 2), set(0, 1, 2, 3, 4));
        x.change(0, 2, ALL);
        x.go(1);
        due("a full MARK", x.of(0, 2), ALL);
        begin("9 go: empty MARKS");
        for (int k = 0; k < 8; k++) x.kin(0, 0);
        x.go(1);
        for (int k = 0; k < 8; k++) due("twice the number " + k, x.of(k, 2), 1 << 2 * k);
    }

    private static void goOfEachKind() {
        begin("9 go: KINDS");
        for (int kind = 0; kind < 7; kind++) x.kin(kind, set(15));
        x.change(5, 5, 0);
        x.go(1);
        int[] first = {set(15, 11), set(15, 11), set(15), set(15, 11, 7), set(15), set(15), set(15, 11)};
        for (int k = 0; k < 7; k++) due("MARK of KIND " + k, x.of(k, 2), first[k]);
        x.go(1);
        due("BABY of AGE 1 yet", x.of(4, 2), set(15));
        due("SAILOR in YEAR 1", x.of(6, 2), set(15, 11));
        x.go(1);
        due("BABY of AGE 2", x.of(4, 2), set(15, 11, 7));
        x.go(1);
        due("SAILOR in YEAR 3", x.of(6, 2), set(15, 11));
        x.go(1);
        due("SAILOR in YEAR 4", x.of(6, 2), set(15, 11, 7));
        begin("9 go: fading");
        for (int kind = 0; kind < 7; kind++) {
            x.kin(kind, ALL);
            x.change(kind, 4, kind == 0 ? 59 : 39);
        }
        x.go(1);
        for (int k = 0; k < 7; k++) due("not yet, KIND " + k, x.of(k, 2), ALL);
        x.go(1);
        int[] faded = {ALL >> 1, ALL >> 1, ALL, ALL >> 1, ALL >> 1, ALL, ALL};
        for (int k = 0; k < 7; k++) due("MARK of KIND " + k, x.of(k, 2), faded[k]);
        x.change(2, 4, 999);
        x.change(5, 4, 999);
        x.change(6, 4, 999);
        x.change(0, 2, set(12));
        x.go(1);
        due("grows, then fades", x.of(0, 2), set(8));
        due("never", x.of(2, 2) & x.of(5, 2) & x.of(6, 2), ALL);
    }

    private static void now() {
        begin("10 now");
        int[] empty = {0, 0, ALL, 0, -1, 0, 0};
        for (int what = 0; what < 7; what++) due("empty now(" + what + ")", x.now(what), empty[what]);
        x.kin(0, set(0, 1));
        x.kin(0, set(1, 2, 9));
        x.kin(0, set(4, 5, 6, 7, 1));
        x.kin(0, set(1, 9));
        x.change(2, 5, 0);
        due("KNOWN", x.now(1), set(0, 1, 2, 9));
        due("not KNOWN", x.now(2), ALL & ~set(0, 1, 2, 9));
        due("LAID", x.now(3), set(0, 1, 3));
        due("who SHOWS most, LAID or not", x.now(4), 2);
        due("CELLS of all MARKS", x.now(5), 12);
        due("just one SHOWS", x.now(6), set(0, 2));
        x.change(0, 2, set(10, 11, 12, 13, 14));
        due("the least number of several", x.now(4), 0);
        x.change(3, 0, 2);
        due("by what it SHOWS", x.now(4), 3);
        due("MARKS, not what they SHOW", x.now(5), 15);
        x.go(3);
        due("YEAR", x.now(0), 3);
        due("now(-1)", x.now(-1), BEYOND);
        due("now(7)", x.now(7), BEYOND);
        beginKin("10 now: three of one", 1, 1, 1);
        due("three SHOW it", x.now(6), 0);
        beginKin("10 now: who SHOWS nothing", 0, 0);
        due("the first one", x.now(4), 0);
    }

    private static void ahead() {
        beginKin("11 ahead", set(0), set(15));
        x.change(1, 0, 1);
        due("nobody such", x.ahead(2, 2, 0), BEYOND);
        due("kin -1", x.ahead(-1, 2, 0), BEYOND);
        for (int what = -1; what < 10; what++) {
            if (what != 2 && what != 4 && what != 6) due("what " + what, x.ahead(0, what, 0), BEYOND);
        }
        due("n -1", x.ahead(0, 2, -1), BEYOND);
        due("n 101", x.ahead(0, 2, 101), BEYOND);
        due("n 0", x.ahead(0, 2, 0), 1);
        due("MARK behind 2", x.ahead(0, 2, 2), set(0, 1, 2));
        due("AGE behind 100", x.ahead(0, 4, 100), 100);
        due("AGE behind 0", x.ahead(0, 4, 0), 0);
        due("SHOWS behind 1", x.ahead(1, 6, 1), set(12, 8));
        due("MARK behind 1", x.ahead(1, 2, 1), set(15, 11));
        due("nothing changes", x.of(0, 2), 1);
        due("no YEAR", x.count(0), 0);
        due("no AGE", x.of(0, 4), 0);
    }

    private static void known() {
        beginKin("12 known", set(0), set(15), set(5));
        x.change(2, 5, 0);
        due("n -1", x.known(-1), BEYOND);
        due("n 101", x.known(101), BEYOND);
        due("now", x.known(0), set(0, 15));
        due("behind 1", x.known(1), set(0, 1, 15, 11));
        due("behind 2", x.known(2), set(0, 1, 2, 15, 11, 7));
        due("behind 100", x.known(100), ALL >> 1);
        due("nothing changes", x.now(1), set(0, 15));
        due("no YEAR", x.count(0), 0);
        int ahead = x.known(60);
        due("as go", x.go(60), ahead);
    }

    private static void when() {
        beginKin("13 when", set(0));
        due("cell -1", x.when(-1), BEYOND);
        due("cell 16", x.when(16), BEYOND);
        for (int cell = 0; cell < 16; cell++) due("when(" + cell + ")", x.when(cell), cell);
        due("nothing changes", x.count(0), 0);
        x.change(0, 5, 0);
        due("not LAID", x.when(0), NONE);
        begin("13 when: late");
        x.kin(0, ALL);
        x.change(0, 0, 2);
        due("never", x.when(0), NONE);
        begin("13 when: an old one");
        x.kin(1, set(15));
        x.change(0, 4, 40);
        // Its one CELL goes up column 3 to CELL 3, then along row 0; it SHOWS that MIRRORED.
        due("MIRRORED 15", x.when(12), 0);
        due("MIRRORED 3", x.when(0), 3);
        due("MIRRORED 0", x.when(3), 6);
        due("never", x.when(5), NONE);
    }

    private static void many() {
        begin("14 many");
        due("nobody, 0", x.many(0), 0);
        due("nobody, 1", x.many(1), NONE);
        x.kin(0, set(0));
        due("v -1", x.many(-1), BEYOND);
        due("v 17", x.many(17), BEYOND);
        for (int v = 1; v <= 16; v++) due("many(" + v + ")", x.many(v), v - 1);
        due("nothing changes", x.count(0), 0);
        x.change(0, 5, 0);
        due("not LAID", x.many(1), NONE);
        due("not LAID, 0", x.many(0), 0);
        due("v -1", x.many(-1), BEYOND);
        begin("14 many: an old one");
        x.kin(1, set(15));
        x.change(0, 4, 40);
        due("one at a time", x.many(1), 0);
        due("never two", x.many(2), NONE);
    }

    private static void match() {
        beginKin("15 match", set(0), set(15));
        x.change(1, 5, 0);
        due("one and the same", x.match(0, 0, 1), BEYOND);
        due("no such first", x.match(2, 0, 1), BEYOND);
        due("no such second", x.match(0, 2, 1), BEYOND);
        due("below", x.match(-1, 0, 1), BEYOND);
        due("below", x.match(0, -1, 1), BEYOND);
        due("v -1", x.match(0, 1, -1), BEYOND);
        due("v 17", x.match(0, 1, 17), BEYOND);
        due("0 in COMMON", x.match(0, 1, 0), 0);
        // 15 goes up its column (11, 7, 3), then along: 2; 0 goes along: 1, 2.
        due("1 in COMMON", x.match(0, 1, 1), 3);
        due("as much the other way", x.match(1, 0, 1), 3);
        due("16 in COMMON", x.match(0, 1, 16), 15);
        due("nothing changes", x.count(0), 0);
        x.change(1, 0, 2);
        x.change(1, 2, ALL);
        due("never", x.match(0, 1, 1), NONE);
    }

    private static void turnFor() {
        beginKin("16 turnFor", set(0), set(0));
        x.change(1, 0, 5);
        due("nobody such", x.turnFor(2, 0), BEYOND);
        due("kin -1", x.turnFor(-1, 0), BEYOND);
        due("n -1", x.turnFor(0, -1), BEYOND);
        due("n 41", x.turnFor(0, 41), BEYOND);
        due("now", x.turnFor(0, 0), 1);
        due("ADOPTED isn't TURNED: the least", x.turnFor(1, 0), 0);
        x.change(0, 3, 2);
        due("the least, not the one of now", x.turnFor(0, 0), 1);
        due("nothing changes", x.of(0, 3), 2);
        x.change(1, 0, 0);
        x.change(1, 2, set(3, 7));
        // Behind 2 YEARS the other one has 3, 7, 2, 1; then 0, 1, 2 are best as row 3.
        x.change(0, 3, 0);
        due("behind 2", x.turnFor(0, 2), 2);
        due("behind 40: as KNOWN as can be", x.turnFor(0, 40), 0);
        x.change(0, 5, 0);
        due("not LAID", x.turnFor(0, 2), 0);
    }

    private static void kindFor() {
        beginKin("17 kindFor", set(0, 1), set(0));
        due("nobody such", x.kindFor(2, 0), BEYOND);
        due("kin -1", x.kindFor(-1, 0), BEYOND);
        due("n -1", x.kindFor(0, -1), BEYOND);
        due("n 41", x.kindFor(0, 41), BEYOND);
        due("now: an UNCLE", x.kindFor(0, 0), 2);
        x.change(0, 2, ALL);
        due("now: a KIN", x.kindFor(0, 0), 0);
        due("nothing changes", x.of(0, 0), 0);
        x.change(0, 2, set(5, 6, 9, 10, 0, 1, 2, 3));
        x.change(1, 2, 0);
        x.change(1, 5, 0);
        due("behind 1: a CHILD (10 CELLS)", x.kindFor(0, 1), 3);
        due("behind 8: a CHILD, no BABY", x.kindFor(0, 4), 3);
        x.change(0, 5, 0);
        due("not LAID: the least", x.kindFor(0, 1), 0);
    }

    private static void cover() {
        begin("18 cover");
        due("nobody", x.cover(), 0);
        x.kin(0, 0);
        due("who SHOW nothing", x.cover(), 0);
        beginKin("18 cover", set(0, 1), set(2, 3), set(0, 1, 2), set(3), set(1, 2, 3));
        due("two, the least set", x.cover(), set(0, 1));
        x.change(0, 5, 0);
        due("LAID or not", x.cover(), set(0, 1));
        x.change(1, 2, set(2));
        due("another two", x.cover(), set(2, 3));
        x.change(2, 2, 15);
        due("one alone", x.cover(), set(2));
        beginKin("18 cover", 1, 2, 4);
        due("everyone", x.cover(), 7);
    }

    private static void hide() {
        beginKin("19 hide", set(0, 1, 2), set(3), set(4, 5), set(3), set(3, 4, 5, 6, 0));
        due("cell -1", x.hide(-1, 0), BEYOND);
        due("cell 16", x.hide(16, 0), BEYOND);
        due("v -1", x.hide(0, -1), BEYOND);
        due("v 17", x.hide(0, 17), BEYOND);
        due("0 others: nobody", x.hide(0, 0), 0);
        due("1 other: the least of one", x.hide(0, 1), set(1));
        due("2 others", x.hide(0, 2), set(2));
        due("3 others", x.hide(0, 3), set(1, 2));
        due("4 others", x.hide(0, 4), NONE);
        due("another CELL", x.hide(2, 5), set(4));
        due("16 others", x.hide(0, 16), NONE);
        x.change(2, 5, 0);
        due("LAID or not", x.hide(0, 3), set(1, 2));
        due("nothing changes", x.now(3), set(0, 1, 3, 4));
        beginKin("19 hide: the fewest, though not the least set", 2, 4, 6);
        due("2 others", x.hide(0, 2), set(2));
        begin("19 hide: an UNCLE");
        x.kin(2, set(7));
        due("15 others", x.hide(7, 15), set(0));
        due("all but", x.hide(6, 1), NONE);
    }

    private static void marry() {
        begin("20 marry");
        due("nobody", x.marry(), NONE);
        x.kin(0, 7);
        due("one", x.marry(), NONE);
        x.kin(0, 8);
        due("two, nothing in COMMON", x.marry(), 1);
        x.kin(0, 16 + 8);
        due("1 in COMMON", x.marry(), 8 + 2);
        x.kin(0, 6);
        due("2 in COMMON", x.marry(), 3);
        x.kin(0, 6);
        due("the least pair", x.marry(), 3);
        x.change(0, 5, 0);
        due("LAID or not", x.marry(), 3);
        x.change(0, 2, 0);
        due("the last two", x.marry(), 8 * 3 + 4);
        x.change(0, 0, 2);
        due("by what they SHOW", x.marry(), 2);
    }

    private static void shows() {
        beginKin("21 shows", set(0, 1, 2), 0);
        due("nobody such", x.shows(2, 0), BEYOND);
        due("kin -1", x.shows(-1, 0), BEYOND);
        due("cell -1", x.shows(0, -1), BEYOND);
        due("cell 16", x.shows(0, 16), BEYOND);
        due("not now", x.shows(0, 3), NONE);
        x.change(0, 2, ALL);
        due("till AGE 60 is gone by", x.shows(0, 15), 60);
        due("it never loses more", x.shows(0, 14), 200);
        x.change(0, 4, 40);
        x.change(0, 0, 1);
        x.change(0, 2, set(15, 3));
        due("at once", x.shows(0, 12), 0);
        due("behind 1: 2, 3; then 1, 2; then 0, 1", x.shows(0, 0), 1);
        x.change(0, 0, 5);
        due("never FADES", x.shows(0, 15), 200);
        x.change(0, 5, 0);
        due("LAID or not", x.shows(0, 15), 200);
        x.change(1, 0, 2);
        due("an UNCLE doesn't change", x.shows(1, 15), 200);
        x.change(1, 0, 6);
        x.change(1, 2, set(11));
        due("a SAILOR till its MARK comes", x.shows(1, 7), 0);
        x.go(1);
        x.change(1, 2, set(11));
        due("a SAILOR in YEAR 1", x.shows(1, 7), 3);
        due("nothing changes", x.count(0), 1);
    }

    private static void fits() {
        beginKin("22 fits", set(0), set(5));
        due("no sheet -1", x.fits(-1, 0), BEYOND);
        due("no sheet 4", x.fits(4, 0), BEYOND);
        due("no sheet ahead of no such one", x.fits(4, 9), BEYOND);
        due("MISSING ahead of no such one", x.fits(0, 9), MISSING);
        sheetOf(0, 32);
        due("no such one", x.fits(0, 2), BEYOND);
        due("no such one", x.fits(0, -1), BEYOND);
        due("no numbers", x.fits(0, 0), 15);
        sheetOf(0, 32, set(0, 5));
        due("now", x.fits(0, 0), set(0));
        sheetOf(1, 32, set(3, 5));
        due("TURNED once", x.fits(1, 0), set(1));
        sheetOf(1, 32, set(3, 5), set(3, 7, 5, 1));
        due("and behind a YEAR", x.fits(1, 0), set(1));
        sheetOf(1, 32, -1, set(3, 7, 5, 1));
        due("any at first", x.fits(1, 0), set(1));
        sheetOf(1, 32, set(3, 5), set(3, 7, 5));
        due("not behind a YEAR", x.fits(1, 0), 0);
        sheetOf(1, 32, -2);
        due("-2 is no any", x.fits(1, 0), 0);
        sheetOf(1, 8, 255);
        due("255 of 8 bits", x.fits(1, 0), 15);
        sheetOf(1, 16, 65535);
        due("65535 of 16 bits", x.fits(1, 0), 15);
        sheetOf(2, 16, 33);
        due("of 16 bits", x.fits(2, 0), set(0));
        x.change(0, 5, 0);
        sheetOf(3, 32, set(5));
        due("not LAID: each", x.fits(3, 0), 15);
        due("nothing changes", x.of(0, 3) + x.count(0), 0);
    }

    private static void kinds() {
        beginKin("23 kinds", set(0), 0);
        x.change(1, 2, set(15));
        x.change(0, 1, 1);
        due("no sheet -1", x.kinds(-1, 0), BEYOND);
        due("no sheet 4", x.kinds(4, 9), BEYOND);
        due("MISSING ahead of no such one", x.kinds(1, 9), MISSING);
        sheetOf(1, 32, set(0, 15));
        due("no such one", x.kinds(1, 2), BEYOND);
        due("no such one", x.kinds(1, -1), BEYOND);
        due("KIN", x.kinds(1, 0), set(0));
        sheetOf(1, 32, set(3, 15));
        due("COUSIN or CHILD", x.kinds(1, 0), set(1, 3));
        sheetOf(1, 32, set(3, 15), set(2, 3, 15, 11));
        due("COUSIN", x.kinds(1, 0), set(1));
        sheetOf(1, 32, set(15));
        due("BABY", x.kinds(1, 0), set(4));
        sheetOf(1, 32, ALL - 1);
        due("UNCLE", x.kinds(1, 0), set(2));
        sheetOf(1, 32, set(0, 5, 15), -1);
        due("ADOPTED", x.kinds(1, 0), set(5));
        sheetOf(1, 32, ALL - 15);
        due("SAILOR", x.kinds(1, 0), set(6));
        sheetOf(1, 32);
        due("no numbers", x.kinds(1, 0), 127);
        due("nothing changes", x.of(0, 0) + x.count(0), 0);
    }

    private static void spots() {
        beginKin("24 spots", set(0, 1), set(5));
        due("no sheet -1", x.spots(-1, 0), BEYOND);
        due("no sheet 4", x.spots(4, 9), BEYOND);
        due("MISSING ahead of no such one", x.spots(2, 9), MISSING);
        sheetOf(2, 32, set(0, 1, 5, 9));
        due("no such one", x.spots(2, 2), BEYOND);
        due("no such one", x.spots(2, -1), BEYOND);
        due("comes", x.spots(2, 0), set(9));
        sheetOf(2, 32, set(0, 5));
        due("is taken", x.spots(2, 0), set(1));
        sheetOf(2, 32, set(0, 1, 5));
        due("changes nothing", x.spots(2, 0), set(5));
        sheetOf(2, 32, -1, set(0, 1, 2, 5, 3));
        due("behind a YEAR", x.spots(2, 0), set(2, 3));
        sheetOf(2, 32, -1, -1);
        due("any", x.spots(2, 0), ALL);
        sheetOf(2, 32);
        due("no numbers", x.spots(2, 0), ALL);
        due("nothing changes", x.of(0, 2), set(0, 1));
    }

    private static void moles() {
        begin("25 moles");
        due("n 0", x.moles(0), BEYOND);
        due("n -1", x.moles(-1), BEYOND);
        due("n 21", x.moles(21), BEYOND);
        due("no draw", x.count(6), 1);
        due("nobody", x.moles(20), 0);
        due("40 draws", x.count(6), drawnOften(1, 40));
        due("20 YEARS", x.count(0), 20);
        due("moles(1)", x.moles(1), 0);
        due("2 draws more", x.count(6), drawnOften(1, 42));
        due("one YEAR more", x.count(0), 21);
        begin("25 moles: what comes and goes");
        for (int k = 0; k < 3; k++) x.kin(2, k * 5000);
        x.seed(-12345);
        int z = -12345;
        int[] marks = {0, 5000, 10000};
        for (int n = 1; n <= 20; n++) {
            for (int i = 0; i < n; i++) {
                z = drawnOften(z, 1);
                int one = (z >>> 8) % 8;
                z = drawnOften(z, 1);
                if (one < 3) marks[one] ^= 1 << (z >>> 8) % 16;
            }
            int known = ALL & ~(marks[0] & marks[1] & marks[2]);
            due("moles(" + n + ")", x.moles(n), known);
            due("z", x.count(6), z);
            due("YEAR", x.count(0), n * (n + 1) / 2);
            for (int k = 0; k < 3; k++) due("MARK", x.of(k, 2), marks[k]);
        }
        due("AGE", x.of(0, 4), 210);
        beginKin("25 moles: the YEAR comes behind the draws", 0, 0, 0, 0, 0, 0, 0, 0);
        // From z 1 on the draws tell KIN 6 and CELL 0, then KIN 4 and CELL 11.
        int[] oneYear = {set(0), set(2), set(4), set(6), set(8), set(10), set(0, 1), set(14)};
        int[] twoYears = {set(0, 1), set(1, 2), set(0, 4), set(2, 6), set(4, 8, 11), set(6, 10), set(0, 1, 2),
            set(10, 14)};
        x.image();
        due("moles(1)", x.moles(1), set(0, 1, 2, 4, 6, 8, 10, 14));
        for (int k = 0; k < 8; k++) due("MARK " + k + " behind moles(1)", x.of(k, 2), oneYear[k]);
        x.undo();
        due("moles(2)", x.moles(2), set(0, 1, 2, 4, 6, 8, 10, 11, 14));
        for (int k = 0; k < 8; k++) due("MARK " + k + " behind moles(2)", x.of(k, 2), twoYears[k]);
        molesYearByYear();
    }

    /** A YEAR goes by behind each two draws, so that n times at once is n times one by one. */
    private static void molesYearByYear() {
        for (int n = 2; n <= 20; n++) {
            beginKin("25 moles: a YEAR behind each two draws", 0, 1 << 5, 0, 1 << 15, 0, 0, 0, 0);
            x.seed(n);
            x.image();
            int known = 0;
            for (int i = 0; i < n; i++) known = x.moles(1);
            int[] marks = new int[8];
            for (int k = 0; k < 8; k++) marks[k] = x.of(k, 2);
            int z = x.count(6);
            x.undo();
            due("moles(" + n + ")", x.moles(n), known);
            for (int k = 0; k < 8; k++) due("MARK " + k + " behind moles(" + n + ")", x.of(k, 2), marks[k]);
            due("z", x.count(6), z);
            due("YEAR", x.count(0), n);
            due("AGES", x.count(4), 8 * n);
        }
    }

    private static int drawnOften(int z, int times) {
        int drawn = z;
        for (int i = 0; i < times; i++) drawn = drawn * 1103515245 + 12345;
        return drawn;
    }

    private static void odds() {
        begin("26 odds");
        due("n -1", x.odds(-1, 0), BEYOND);
        due("n 16", x.odds(16, 0), BEYOND);
        due("what -1", x.odds(0, -1), BEYOND);
        due("what 2", x.odds(0, 2), BEYOND);
        due("no CELL, nothing KNOWN", x.odds(0, 0), 1);
        due("no CELL, below", x.odds(0, 1), 1);
        due("nothing KNOWN", x.odds(1, 0), 0);
        due("nothing KNOWN, below", x.odds(1, 1), 1);
        x.kin(0, set(0, 1, 2));
        due("3 of 16", x.odds(1, 0), 3);
        due("3 of 16, below", x.odds(1, 1), 16);
        due("15 times", x.odds(15, 0), 14348907);
        due("15 times, below", x.odds(15, 1), 1L << 60);
        x.change(0, 2, ALL >> 1);
        due("15 of 16, 15 times", x.odds(15, 0), 437893890380859375L);
        x.change(0, 2, 0xFFF);
        due("12 of 16", x.odds(2, 0), 9);
        due("12 of 16, below", x.odds(2, 1), 16);
        x.change(0, 2, 0xFF);
        due("8 of 16", x.odds(3, 0), 1);
        due("8 of 16, below", x.odds(3, 1), 8);
        x.change(0, 2, ALL);
        due("all", x.odds(15, 0), 1);
        due("all, below", x.odds(15, 1), 1);
        x.change(0, 5, 0);
        due("what is KNOWN, not SHOWN", x.odds(15, 0), 0);
    }

    private static void seed() {
        begin("27 seed");
        due("z at first", x.seed(5), 1);
        due("z", x.count(6), 5);
        due("seed", x.seed(-1000001), 5);
        due("seed", x.seed(Integer.MIN_VALUE), -1000001);
        due("z", x.count(6), Integer.MIN_VALUE);
        due("seed", x.seed(0), Integer.MIN_VALUE);
        due("no finding", x.status(-1), 0);
    }

    private static void feed() {
        begin("28 feed");
        due("n 0", x.feed(1, 0), BEYOND);
        due("n -1", x.feed(1, -1), BEYOND);
        due("n 5", x.feed(1, 5), BEYOND);
        due("'kin'", x.feed('?' << 24 | 'k' << 16 | 'i' << 8 | 'n', 3), 3);
        due("' up;'", x.feed(' ' << 24 | 'u' << 16 | 'p' << 8 | ';', 4), 7);
        due("'ba'", x.feed(0xABCD0000 | 'b' << 8 | 'a', 2), 9);
        due("'by'", x.feed('b' << 8 | 'y', 2), 11);
        due("a text", x.text(), 2);
        due("a byte of 255", x.feed(-1, 1), 1);
        x.wipe();
        for (int i = 1; i <= 29; i++) due("four more", x.feed(0, 4), 4 * i);
        due("three more", x.feed(0, 3), 119);
        due("two too many", x.feed(0, 2), FULL);
        due("none came", x.count(5), 119);
        due("BEYOND ahead of FULL", x.feed(0, 5), BEYOND);
        due("the 120th", x.feed(0, 1), 120);
        due("the 121st", x.feed(0, 1), FULL);
    }

    private static void wipe() {
        begin("29 wipe");
        due("empty", x.wipe(), 0);
        feedText("aunt");
        due("four", x.wipe(), 4);
        due("empty", x.wipe(), 0);
        feedText("kin");
        due("what was wiped is gone", x.text(), 1);
    }

    private static void read(String text, int want) {
        feedText(text);
        due("\"" + text + "\"", x.text(), want);
        due("THE TAPE is empty", x.count(5), 0);
    }

    private static void text() {
        begin("30 text");
        read("kin", 1);
        read("  cousin   of 0mark 65535 turn3 up  ", 1);
        int[] cousin = {1, 0, 65535, 3, 0, 0};
        for (int what = 0; what < 6; what++) due("of(1, " + what + ")", x.of(1, what), cousin[what]);
        read("uncle;child;baby of 3;adopted turn 2 ; sailor up", 5);
        int[] kinds = {0, 1, 2, 3, 4, 5, 6};
        for (int k = 0; k < 7; k++) due("KIND", x.of(k, 0), kinds[k]);
        due("PARENT of this TEXT", x.of(4, 1), 3);
        due("TURN", x.of(5, 3), 2);
        due("LAID", x.now(3), set(0, 2, 3, 4, 5));
        read("aged 6 999;aged 0 0;kin of 6;aged 7 12;aged 7 13", 5);
        due("AGE", x.of(6, 4), 999);
        due("AGE, the later one", x.of(7, 4), 13);
        due("PARENT", x.of(7, 1), 6);
        due("no finding", x.status(-1), 0);
        begin("30 text: 120 bytes");
        read("kin" + " ".repeat(117), 1);
        read("kin up" + " ".repeat(102) + ";aged 0 1000", -117);
        read("kinup", -1);
        due("nothing came", x.count(1), 1);
        read("kin mark 000000000000000000000000000000000000012", 1);
        due("MARK", x.of(1, 2), 12);
        due("TURN, AGE as at first", x.of(1, 3) + x.of(1, 4), 0);
        begin("30 text: all but KIN stays");
        x.kin(0, 3);
        x.seed(77);
        x.hold(4, 0);
        x.go(5);
        read("kin of 0", 1);
        due("z", x.count(6), 77);
        due("SPOTS", x.as(4, 0), 0);
        due("YEAR", x.count(0), 5);
        due("AGE of the other one", x.of(0, 4), 5);
    }

    /** A TEXT with a FAULT, on a new land, as all of them together would be more calls than one is good for. */
    private static void refused(String text, int want) {
        x = new SkinLands();
        read(text, want);
        due("nobody came", x.count(1), 0);
        due("no finding", x.status(-1), 0);
    }

    private static void textFaults() {
        begin("30 text: FAULTS");
        refused("", -1);
        refused("   ", -4);
        refused("kin;", -5);
        refused("kin ; ", -7);
        refused(";", -1);
        refused("kin;;kin", -5);
        refused("  aunt", -3);
        refused("kins", -1);
        refused("kinz", -1);
        refused("akin", -1);
        refused("xin", -1);
        refused("kix", -1);
        refused("xousin", -1);
        refused("xncle", -1);
        refused("xhild", -1);
        refused("xaby", -1);
        refused("xdopted", -1);
        refused("xailor", -1);
        refused("kin xf 0", -5);
        refused("kin xark 0", -5);
        refused("kin xurn 0", -5);
        refused("kin xp", -5);
        refused("kin;xged 0 0", -5);
        refused("kin{", -4);
        refused("kin`", -4);
        refused("kin mark 1/", -11);
        refused("kin mark 1:", -11);
        refused("kin turn", -9);
        refused("kin turn up", -10);
        refused("Kin", -1);
        refused("kin\tup", -4);
        refused("kin.", -4);
        refused("kin up\u00e9", -7);
        refused("7", -1);
        refused("kin 0", -5);
        refused("kin of", -7);
        refused("kin of ", -8);
        refused("kin of 0", -8);
        refused("kin of kin", -8);
        refused("kin;kin of 1", -12);
        refused("kin;kin of 99999", -12);
        refused("kin mark", -9);
        refused("kin mark 65536", -10);
        refused("kin mark 100000", -10);
        refused("kin mark 4294967296", -10);
        refused("kin mark -1", -10);
        refused("kin turn 4", -10);
        refused("kin turn 3 4", -12);
        refused("kin turn 1 mark 1", -12);
        refused("kin up mark 1", -8);
        refused("kin mark 1 of 0", -12);
        refused("kin mark 1 mark 1", -12);
        refused("kin up up", -8);
        refused("kin kin", -5);
        refused("aged", -5);
        refused("aged 0 0", -6);
        refused("kin;aged 1 0", -10);
        refused("kin;aged 0", -11);
        refused("kin;aged 0 1000", -12);
        refused("kin;aged 0;5", -11);
        refused("kin;aged 0 5 up", -14);
        refused("kin;aged up", -10);
        refused("of 0", -1);
        refused("mark 1", -1);
        refused("up", -1);
        x = new SkinLands();
        read("kin;kin;kin;kin;kin;kin;kin;kin", 8);
        read("aged 3 4;  kin of 99", -12);
        due("nothing changed", x.of(3, 4), 0);
        read("aged 7 1;aged 8 1", -15);
        read("aged 7 1", 1);
    }

    private static void hold() {
        beginKin("31 hold", 1, 2);
        due("spot -1", x.hold(-1, 0), BEYOND);
        due("spot 10", x.hold(10, 0), BEYOND);
        due("no such one", x.hold(0, 2), BEYOND);
        due("kin -2", x.hold(0, -2), BEYOND);
        due("hold(0, 1)", x.hold(0, 1), 1);
        due("hold(9, 1)", x.hold(9, 1), 1);
        due("as(0, 0)", x.as(0, 0), 1);
        due("as(9, 0)", x.as(9, 0), 1);
        due("another one", x.hold(0, 0), 1);
        due("as(0, 0)", x.as(0, 0), 0);
        due("nothing", x.hold(0, -1), 1);
        due("as(0, 0)", x.as(0, 0), MISSING);
        due("nothing again", x.hold(0, -1), 1);
        due("count(7)", x.count(7), 1);
    }

    private static void as() {
        begin("32 as");
        for (int kind = 0; kind < 7; kind++) {
            x.kin(kind, 0);
            x.hold(kind, kind);
        }
        int[] above = {set(0), set(0, 1), set(0, 2), set(0, 1, 3), set(0, 1, 3, 4), set(0, 5), set(0, 2, 6)};
        for (int k = 0; k < 7; k++) {
            for (int kind = 0; kind < 7; kind++) {
                due("as(" + k + ", " + kind + ")", x.as(k, kind), (above[k] >> kind & 1) == 1 ? k : KIND);
            }
        }
        due("spot -1", x.as(-1, 0), BEYOND);
        due("spot 10", x.as(10, 0), BEYOND);
        due("kind -1", x.as(0, -1), BEYOND);
        due("kind 7", x.as(0, 7), BEYOND);
        due("BEYOND ahead of MISSING", x.as(9, 7), BEYOND);
        due("MISSING", x.as(9, 0), MISSING);
        x.change(4, 0, 2);
        due("its KIND of now", x.as(4, 2), 4);
        due("its KIND of now", x.as(4, 3), KIND);
    }

    private static void sheet() {
        begin("33 sheet");
        due("sheet -1", x.sheet(-1, 8, 1), BEYOND);
        due("sheet 4", x.sheet(4, 8, 1), BEYOND);
        for (int bits = -1; bits < 70; bits++) {
            boolean areBits = bits == 0 || bits == 8 || bits == 16 || bits == 32;
            if (!areBits) due("bits " + bits, x.sheet(0, bits, 1), BEYOND);
        }
        due("other bits ahead of SIZE", x.sheet(0, 7, -1), BEYOND);
        due("no such sheet ahead of SIZE", x.sheet(4, 8, -1), BEYOND);
        due("n -1", x.sheet(0, 8, -1), SIZE);
        due("n -1 with bits 0", x.sheet(0, 0, -1), SIZE);
        due("n 41", x.sheet(0, 32, 41), BEYOND);
        due("n 41 with bits 0", x.sheet(0, 0, 41), BEYOND);
        due("still MISSING", x.load(0), MISSING);
        due("40 numbers", x.sheet(0, 8, 40), 40);
        due("the last one", x.write(0, 39, 1), 1);
        due("fewer", x.sheet(0, 16, 3), 3);
        due("no 4th", x.write(0, 3, 1), BEYOND);
        due("more", x.sheet(0, 16, 40), 40);
        x.kin(0, 0);
        due("all 0", x.judge(0), 2);
        due("none", x.sheet(0, 16, 0), 0);
        due("not MISSING", x.judge(0), 0);
        due("bits 0", x.sheet(0, 0, 5), 0);
        due("MISSING", x.judge(0), MISSING);
        due("MISSING again", x.sheet(0, 0, 0), 0);
        due("the others, too", x.sheet(3, 8, 2), 2);
        begin("33 sheet: the zeros");
        for (int k = 0; k < 3; k++) x.kin(0, 0);
        sheetOf(1, 32, 1, 2, 3);
        x.sheet(1, 32, 3);
        due("all 0 again", x.judge(1), 0);
    }

    private static void write() {
        beginKin("34 write", 0);
        due("sheet -1", x.write(-1, 0, 0), BEYOND);
        due("sheet 4", x.write(4, 0, 0), BEYOND);
        due("MISSING ahead of no such number", x.write(0, 9, 0), MISSING);
        x.sheet(0, 8, 2);
        due("number -1", x.write(0, -1, 0), BEYOND);
        due("number 2", x.write(0, 2, 0), BEYOND);
        due("number 1", x.write(0, 1, 0), 1);
        int[][] kept = {{8, 127, 127}, {8, 128, -128}, {8, 255, -1}, {8, 256, 0}, {8, 0x7F05, 5},
            {16, 32767, 32767}, {16, 32768, -32768}, {16, 65535, -1}, {16, 65536, 0}, {16, 0x10005, 5},
            {32, 65535, 65535}, {32, 65536, 65536}, {32, -1, -1}, {32, 33, 33}, {8, -200, 56}, {16, -65000, 536}};
        for (int[] row : kept) {
            x.sheet(0, row[0], 1);
            due("write(0, 0, " + row[1] + ")", x.write(0, 0, row[1]), 1);
            x.change(0, 2, 40000);
            boolean isMark = row[2] >= 0 && row[2] <= ALL;
            due("load", x.load(0), isMark ? 1 : 0);
            due("its MARK", x.of(0, 2), isMark ? row[2] : 40000);
            if (row[2] == -1) due("any", x.fits(0, 0), 15);
            if (row[2] < -1) due("not any", x.fits(0, 0), 0);
        }
    }

    private static void copy() {
        begin("35 copy");
        for (int k = 0; k < 5; k++) x.kin(0, 0);
        due("sheet -1", x.copy(-1, 0, 0, 0, 0), BEYOND);
        due("sheet 4", x.copy(4, 0, 0, 0, 0), BEYOND);
        due("other sheet -1", x.copy(0, 0, -1, 0, 0), BEYOND);
        due("other sheet 4", x.copy(0, 0, 4, 0, 0), BEYOND);
        due("both MISSING", x.copy(0, 0, 1, 0, 0), MISSING);
        sheetOf(0, 16, 1, 2, 3, 4, 5);
        due("the other one MISSING", x.copy(0, 0, 1, 0, 0), MISSING);
        due("the first MISSING", x.copy(1, 0, 0, 0, 0), MISSING);
        due("MISSING ahead of BEYOND", x.copy(0, -1, 1, 0, 0), MISSING);
        due("no such sheet ahead of MISSING", x.copy(1, 0, 4, 0, 0), BEYOND);
        x.sheet(1, 8, 5);
        due("other bits", x.copy(0, 0, 1, 0, 5), KIND);
        due("other bits ahead of BEYOND", x.copy(0, 0, 1, 0, 6), KIND);
        x.sheet(1, 16, 3);
        due("from -1", x.copy(0, -1, 1, 0, 1), BEYOND);
        due("to -1", x.copy(0, 0, 1, -1, 1), BEYOND);
        due("n -1", x.copy(0, 0, 1, 0, -1), BEYOND);
        due("the first has not so many", x.copy(0, 3, 1, 0, 3), BEYOND);
        due("the other one has not so many", x.copy(0, 0, 1, 0, 4), BEYOND);
        due("the other one has not so many", x.copy(0, 0, 1, 1, 3), BEYOND);
        due("from far, none", x.copy(0, 6, 1, 0, 0), BEYOND);
        due("to far, none", x.copy(0, 0, 1, 4, 0), BEYOND);
        due("a sum that wraps around", x.copy(0, Integer.MAX_VALUE, 1, 0, 2), BEYOND);
        due("a sum that wraps around", x.copy(0, 1, 1, 0, Integer.MAX_VALUE), BEYOND);
        due("a sum that wraps around", x.copy(0, 0, 1, Integer.MAX_VALUE, 2), BEYOND);
        due("other way round", x.copy(1, 0, 0, 0, 3), 3);
        sheetOf(0, 16, 1, 2, 3, 4, 5);
        due("none, from the end to the end", x.copy(0, 5, 1, 3, 0), 0);
        due("two", x.copy(0, 3, 1, 1, 2), 2);
        dueMarks(1, 0, 4, 5);
        due("onto itself, up", x.copy(0, 0, 0, 1, 4), 4);
        dueMarks(0, 1, 1, 2, 3, 4);
        sheetOf(0, 16, 1, 2, 3, 4, 5);
        due("onto itself, down", x.copy(0, 1, 0, 0, 4), 4);
        dueMarks(0, 2, 3, 4, 5, 5);
        sheetOf(2, 16, 9, 8, 7, 6, 5);
        due("all of it", x.copy(2, 0, 0, 0, 5), 5);
        dueMarks(0, 9, 8, 7, 6, 5);
    }

    private static void dueMarks(int s, int... marks) {
        due("load", x.load(s), marks.length);
        for (int k = 0; k < marks.length; k++) due("number " + k, x.of(k, 2), marks[k]);
    }

    private static void load() {
        beginKin("36 load", 0, 0, 9);
        due("sheet -1", x.load(-1), BEYOND);
        due("sheet 4", x.load(4), BEYOND);
        due("MISSING", x.load(3), MISSING);
        sheetOf(3, 32);
        due("no numbers", x.load(3), 0);
        sheetOf(3, 32, 5, 65535);
        due("two", x.load(3), 2);
        due("MARK", x.of(0, 2), 5);
        due("MARK", x.of(1, 2), 65535);
        due("MARK", x.of(2, 2), 9);
        sheetOf(3, 32, 6, 65536, 7);
        due("65536", x.load(3), 1);
        due("MARK", x.of(0, 2), 6);
        due("MARK", x.of(1, 2), 65535);
        due("MARK", x.of(2, 2), 9);
        sheetOf(3, 32, 1, 2, -1);
        due("-1", x.load(3), 2);
        sheetOf(3, 32, 1, 2, 3, 4);
        due("no such one", x.load(3), 3);
        due("MARK", x.of(2, 2), 3);
        sheetOf(3, 32, -5);
        due("none", x.load(3), 0);
    }

    private static void judge() {
        begin("37 judge");
        x.kin(0, 3);
        x.kin(1, 1);
        x.change(1, 5, 0);
        due("sheet -1", x.judge(-1), BEYOND);
        due("sheet 4", x.judge(4), BEYOND);
        due("MISSING", x.judge(2), MISSING);
        sheetOf(2, 16);
        due("no numbers", x.judge(2), 0);
        sheetOf(2, 16, 3);
        due("fewer", x.judge(2), 0);
        sheetOf(2, 16, 3, 8);
        due("all, LAID or not", x.judge(2), 0);
        sheetOf(2, 16, 3, 1);
        due("not its MARK", x.judge(2), 2);
        sheetOf(2, 16, 4, 1);
        due("the first one", x.judge(2), 1);
        sheetOf(2, 16, 3, 8, 0);
        due("no such one", x.judge(2), 3);
        sheetOf(2, 16, -1);
        due("no any", x.judge(2), 1);
        x.change(0, 2, 40000);
        sheetOf(2, 16, 40000);
        due("with its sign", x.judge(2), 1);
        sheetOf(2, 32, 40000);
        due("of 32 bits", x.judge(2), 0);
    }

    private static void image() {
        begin("38 image");
        due("image", x.image(), 1);
        due("image again", x.image(), 1);
        x.kin(0, 5);
        due("undo", x.undo(), 0);
        due("no KIN", x.count(1), 0);
        x.kin(0, 5);
        x.image();
        x.change(0, 2, 6);
        x.undo();
        due("the latest", x.of(0, 2), 5);
    }

    private static void undo() {
        begin("39 undo");
        due("nothing is kept", x.undo(), NONE);
        x.kin(3, 5);
        x.kin(1, 6);
        x.change(0, 1, 1);
        x.change(0, 3, 2);
        x.change(0, 5, 0);
        x.go(7);
        int mark = x.of(0, 2);
        x.hold(3, 1);
        x.seed(99);
        sheetOf(0, 32, 1);
        x.feed('k', 1);
        x.image();
        x.change(0, 0, 2);
        x.change(0, 1, -1);
        x.change(0, 3, 0);
        x.change(0, 5, 1);
        x.go(3);
        x.kin(0, 0);
        x.hold(3, -1);
        x.hold(4, 2);
        x.seed(98);
        x.write(0, 0, 2);
        x.sheet(1, 8, 3);
        x.feed('i' << 8 | 'n', 2);
        due("YEAR", x.undo(), 7);
        due("KIN", x.count(1), 2);
        int[] due = {3, 1, mark, 2, 7, 0};
        for (int what = 0; what < 6; what++) due("of(0, " + what + ")", x.of(0, what), due[what]);
        due("z", x.count(6), 99);
        due("SPOT 3", x.as(3, 0), 1);
        due("SPOT 4", x.as(4, 0), MISSING);
        due("SHEETS stay", x.copy(1, 0, 1, 1, 2), 2);
        x.load(0);
        due("SHEETS stay", x.of(0, 2), 2);
        due("THE TAPE stays", x.text(), 1);
        due("status() stays", x.status(-1), 2);
        x.go(1);
        due("what was kept stays", x.undo(), 7);
        due("what was kept stays", x.of(0, 2), mark);
        due("KIN", x.count(1), 2);
    }

    private static void tear() {
        begin("40 tear");
        due("nothing", x.tear(), 0);
        x.image();
        x.undo();
        due("something", x.tear(), 1);
        due("nothing", x.tear(), 0);
        due("undo", x.undo(), NONE);
        x.kin(0, 1);
        x.image();
        due("kept again", x.undo(), 0);
        due("KIN", x.count(1), 1);
    }

    private static void count() {
        beginKin("41 count", 7, 8, 1 << 15);
        x.change(2, 5, 0);
        x.go(2);
        x.change(1, 4, 10);
        x.hold(0, 1);
        x.hold(1, 1);
        x.hold(2, 0);
        x.hold(1, -1);
        x.feed(0, 3);
        x.seed(-7);
        int[] due = {2, 3, Integer.bitCount(x.now(1)), 2, 14, 3, -7, 2};
        for (int what = 0; what < 8; what++) due("count(" + what + ")", x.count(what), due[what]);
        due("KNOWN, not of those who aren't LAID", x.count(2), 5);
        due("count(-1)", x.count(-1), BEYOND);
        due("count(8)", x.count(8), BEYOND);
    }

    private static void status() {
        begin("42 status");
        due("all", x.status(-1), 0);
        for (int which = 0; which < 7; which++) due("status(" + which + ")", x.status(which), 0);
        due("status(7)", x.status(7), BEYOND);
        due("it is counted", x.status(0), 1);
        due("status(-2)", x.status(-2), BEYOND);
        due("it is counted", x.status(0), 2);
        x.image();
        for (int k = 0; k < 9; k++) x.kin(1, 0);
        x.hold(0, 0);
        x.as(0, 2);
        x.as(0, 3);
        x.as(0, 4);
        x.tear();
        for (int i = 0; i < 4; i++) x.undo();
        for (int i = 0; i < 6; i++) x.load(0);
        for (int i = 0; i < 7; i++) x.sheet(0, 8, -1);
        int[] due = {2, 1, 3, 4, 0, 6, 7};
        for (int which = 0; which < 7; which++) due("status(" + which + ")", x.status(which), due[which]);
        due("all", x.status(-1), 23);
        x.image();
        x.undo();
        due("undo() takes none back", x.status(-1), 23);
        x.wipe();
        x.text();
        x.seed(-1000001);
        due("z is no finding", x.count(6), -1000001);
        due("a FAULT is no finding", x.status(-1), 23);
        x.odds(16, 0);
        due("a long, too", x.status(0), 3);
    }

    private static void fullFamily() {
        begin("eight of them");
        for (int k = 0; k < 8; k++) {
            x.kin(5, k == 7 ? set(15) : set(k));
            x.hold(k, k);
        }
        for (int what = 0; what < 7; what++) {
            int[] due = {0, set(0, 1, 2, 3, 4, 5, 6, 15), ALL - set(0, 1, 2, 3, 4, 5, 6, 15), 255, 0, 8,
                set(0, 1, 2, 3, 4, 6, 15)};
            due("now(" + what + ")", x.now(what), due[what]);
        }
        due("who", x.who(5), 255);
        due("common", x.common(6, 7), set(5));
        due("cover", x.cover(), 255 - set(5));
        due("hide", x.hide(0, 7), 255 - set(0, 5));
        due("hide", x.hide(15, 8), NONE);
        due("marry", x.marry(), 1);
        due("when", x.when(11), 1);
        due("known", x.known(1), set(0, 1, 2, 3, 4, 5, 6, 11, 15));
        due("turnFor", x.turnFor(7, 1), 0);
        due("shows", x.shows(7, 15), 200);
        due("ahead", x.ahead(7, 2, 1), set(15, 11));
        due("count(4)", x.count(4), 0);
        due("go", x.go(1), set(0, 1, 2, 3, 4, 5, 6, 11, 15));
        due("count(4)", x.count(4), 8);
        due("count(7)", x.count(7), 8);
        due("now(5)", x.now(5), 16);
        x.image();
        x.change(7, 2, 0);
        x.undo();
        due("of the last one", x.of(7, 2), set(15, 11));
        sheetOf(0, 32, 1, 2, 3, 4, 5, 6, 7, 8, 9);
        due("load", x.load(0), 8);
        due("judge", x.judge(0), 1);
        x.moles(20);
        due("count(1)", x.count(1), 8);
    }

    private static void farArguments() {
        for (int far : FAR) {
            beginKin("far arguments", 1, 2);
            x.sheet(0, 8, 4);
            due("kin", x.kin(far, 0), BEYOND);
            due("kin", x.kin(0, far), BEYOND);
            due("of", x.of(far, 0), BEYOND);
            due("of", x.of(0, far), BEYOND);
            due("change", x.change(far, 0, 0), BEYOND);
            due("change", x.change(0, far, 0), BEYOND);
            for (int what = 0; what < 6; what++) due("change", x.change(0, what, far), BEYOND);
            due("birth", x.birth(far, 0, 1), BEYOND);
            due("birth", x.birth(0, far, 1), BEYOND);
            due("birth", x.birth(0, 0, far), BEYOND);
            due("who", x.who(far), BEYOND);
            due("common", x.common(far, 0), BEYOND);
            due("common", x.common(0, far), BEYOND);
            due("turned", x.turned(far, 0, 0), BEYOND);
            due("turned", x.turned(0, far, 0), BEYOND);
            due("turned", x.turned(0, 0, far), BEYOND);
            due("go", x.go(far), BEYOND);
            due("now", x.now(far), BEYOND);
            due("ahead", x.ahead(far, 2, 0), BEYOND);
            due("ahead", x.ahead(0, far, 0), BEYOND);
            due("ahead", x.ahead(0, 2, far), BEYOND);
            due("known", x.known(far), BEYOND);
            due("when", x.when(far), BEYOND);
            due("many", x.many(far), BEYOND);
            due("match", x.match(far, 1, 0), BEYOND);
            due("match", x.match(0, far, 0), BEYOND);
            due("match", x.match(0, 1, far), BEYOND);
            due("turnFor", x.turnFor(far, 0), BEYOND);
            due("turnFor", x.turnFor(0, far), BEYOND);
            due("kindFor", x.kindFor(far, 0), BEYOND);
            due("kindFor", x.kindFor(0, far), BEYOND);
            due("hide", x.hide(far, 0), BEYOND);
            due("hide", x.hide(0, far), BEYOND);
            due("shows", x.shows(far, 0), BEYOND);
            due("shows", x.shows(0, far), BEYOND);
            due("fits", x.fits(far, 0), BEYOND);
            due("fits", x.fits(0, far), BEYOND);
            due("kinds", x.kinds(far, 0), BEYOND);
            due("kinds", x.kinds(0, far), BEYOND);
            due("spots", x.spots(far, 0), BEYOND);
            due("spots", x.spots(0, far), BEYOND);
            due("moles", x.moles(far), BEYOND);
            due("odds", x.odds(far, 0), BEYOND);
            due("odds", x.odds(0, far), BEYOND);
            due("feed", x.feed(0, far), BEYOND);
            due("hold", x.hold(far, 0), BEYOND);
            due("hold", x.hold(0, far), BEYOND);
            due("as", x.as(far, 0), BEYOND);
            due("as", x.as(0, far), BEYOND);
            due("sheet", x.sheet(far, 8, 0), BEYOND);
            due("sheet", x.sheet(0, far, 0), BEYOND);
            due("sheet", x.sheet(0, 8, far), far < 0 ? SIZE : BEYOND);
            due("write", x.write(far, 0, 0), BEYOND);
            due("write", x.write(0, far, 0), BEYOND);
            due("copy", x.copy(far, 0, 0, 0, 0), BEYOND);
            due("copy", x.copy(0, far, 0, 0, 1), BEYOND);
            due("copy", x.copy(0, 0, far, 0, 0), BEYOND);
            due("copy", x.copy(0, 0, 0, far, 1), BEYOND);
            due("copy", x.copy(0, 0, 0, 0, far), BEYOND);
            due("load", x.load(far), BEYOND);
            due("judge", x.judge(far), BEYOND);
            due("count", x.count(far), BEYOND);
            due("status", x.status(far), BEYOND);
            due("nothing changed", x.count(0) + x.of(0, 2) + x.of(1, 2), 3);
            due("each is counted", x.status(-1), 68);
        }
    }
}
