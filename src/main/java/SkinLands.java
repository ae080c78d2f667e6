/** A land told in instalments by the marks of a family. ../shared/DOC.md says what each act promises. */
public final class SkinLands {
    private static final int LOW = -1000001;

    private static final int BEYOND = 0;
    private static final int FULL = 1;
    private static final int NOT_OF_KIND = 2;
    private static final int NONE = 3;
    private static final int STATE = 4;
    private static final int MISSING = 5;
    private static final int SIZE = 6;
    private static final int FINDINGS = 7;
    private static final int FINE = -1;

    private static final int NOBODY = -1;
    private static final int ANY = -1;
    private static final int TURNS = 4;
    private static final int LATEST_YEAR = 99999;
    private static final int MOST_YEARS_SEARCHED = 200;
    private static final int MOST_YEARS_AHEAD = 100;
    private static final int MOST_YEARS_CHOSEN = 40;
    private static final int MOST_YEARS_GONE = 60;
    private static final int MOST_MOLES = 20;
    private static final int MOST_ODDS = 15;

    private final Family family = new Family();
    /** What would be is played out here, so that no act makes a new object. */
    private final Family trial = new Family();
    private final Family kept = new Family();
    private final Sheets sheets = new Sheets();
    private final Tape tape = new Tape();
    private final int[] findings = new int[FINDINGS];
    private boolean isKept;

    public SkinLands() {
        isKept = false;
    }

    // ---- kin

    public int kin(int kind, int mark) {
        if (!isKind(kind) || !Cells.isSet(mark)) return finding(BEYOND);
        if (family.isFull()) return finding(FULL);
        return family.add(kind, NOBODY, mark);
    }

    public int of(int kin, int what) {
        if (!family.has(kin) || !within(what, 0, Family.FADED)) return finding(BEYOND);
        return family.tell(kin, what);
    }

    public int change(int kin, int what, int v) {
        if (!family.has(kin) || !canBecome(kin, what, v)) return finding(BEYOND);
        int was = family.tell(kin, what);
        family.put(kin, what, v);
        return was;
    }

    public int birth(int kind, int a, int b) {
        if (!isKind(kind) || !areTwo(a, b)) return finding(BEYOND);
        if (family.isFull()) return finding(FULL);
        return family.add(kind, a, family.tell(a, Family.MARK) & family.tell(b, Family.MARK));
    }

    public int who(int cell) {
        if (!Cells.isCell(cell)) return finding(BEYOND);
        return family.showersOf(cell);
    }

    public int common(int a, int b) {
        if (!family.has(a) || !family.has(b)) return finding(BEYOND);
        return family.sharedBy(a, b);
    }

    public int turned(int cells, int t, int mirror) {
        if (!Cells.isSet(cells) || !isTurn(t) || !within(mirror, 0, 1)) return finding(BEYOND);
        int after = Cells.turnedTimes(cells, t);
        return mirror == 1 ? Cells.mirrored(after) : after;
    }

    // ---- years

    public int go(int n) {
        if (!within(n, 1, MOST_YEARS_GONE)) return finding(BEYOND);
        if (!hasYearsLeft(n)) return finding(STATE);
        family.live(n);
        return family.knownCells();
    }

    public int now(int what) {
        switch (what) {
            case 0: return family.yearNow();
            case 1: return family.knownCells();
            case 2: return Cells.ALL & ~family.knownCells();
            case 3: return family.laidOnes();
            case 4: return family.showsMost();
            case 5: return family.markedCells();
            case 6: return family.knownByOne();
            default: return finding(BEYOND);
        }
    }

    // ---- what will be

    public int ahead(int kin, int what, int n) {
        boolean isTold = what == Family.MARK || what == Family.AGE || what == Family.SHOWN;
        if (!family.has(kin) || !isTold || !within(n, 0, MOST_YEARS_AHEAD)) return finding(BEYOND);
        trial.become(family);
        trial.live(n);
        return trial.tell(kin, what);
    }

    public int known(int n) {
        if (!within(n, 0, MOST_YEARS_AHEAD)) return finding(BEYOND);
        trial.become(family);
        trial.live(n);
        return trial.knownCells();
    }

    public int when(int cell) {
        if (!Cells.isCell(cell)) return finding(BEYOND);
        trial.become(family);
        for (int n = 0; n <= MOST_YEARS_SEARCHED; n++) {
            if (Cells.has(trial.knownCells(), cell)) return n;
            trial.live(1);
        }
        return finding(NONE);
    }

    public int many(int v) {
        if (!isAmount(v)) return finding(BEYOND);
        trial.become(family);
        for (int n = 0; n <= MOST_YEARS_SEARCHED; n++) {
            if (Cells.amount(trial.knownCells()) >= v) return n;
            trial.live(1);
        }
        return finding(NONE);
    }

    public int match(int a, int b, int v) {
        if (!areTwo(a, b) || !isAmount(v)) return finding(BEYOND);
        trial.become(family);
        for (int n = 0; n <= MOST_YEARS_SEARCHED; n++) {
            if (Cells.amount(trial.sharedBy(a, b)) >= v) return n;
            trial.live(1);
        }
        return finding(NONE);
    }

    // ---- how to lie

    public int turnFor(int kin, int n) {
        if (!family.has(kin) || !within(n, 0, MOST_YEARS_CHOSEN)) return finding(BEYOND);
        return bestChoice(kin, Family.TURN, TURNS, n);
    }

    public int kindFor(int kin, int n) {
        if (!family.has(kin) || !within(n, 0, MOST_YEARS_CHOSEN)) return finding(BEYOND);
        return bestChoice(kin, Family.KIND, Family.KINDS, n);
    }

    public int cover() {
        int due = family.shownTogether(family.everyone());
        int best = family.everyone();
        for (int some = 0; some < family.everyone(); some++) {
            if (isFewer(some, best) && family.shownTogether(some) == due) best = some;
        }
        return best;
    }

    public int hide(int cell, int v) {
        if (!Cells.isCell(cell) || !isAmount(v)) return finding(BEYOND);
        int best = NOBODY;
        for (int some = 0; some <= family.everyone(); some++) {
            int seen = family.shownTogether(some);
            boolean hides = !Cells.has(seen, cell) && Cells.amount(seen) >= v;
            if (hides && (best == NOBODY || isFewer(some, best))) best = some;
        }
        return best == NOBODY ? finding(NONE) : best;
    }

    public int marry() {
        if (family.amount() < 2) return finding(NONE);
        int best = 0;
        int most = -1;
        for (int a = 0; a < family.amount(); a++) {
            for (int b = a + 1; b < family.amount(); b++) {
                int shared = Cells.amount(family.sharedBy(a, b));
                if (shared > most) {
                    most = shared;
                    best = 8 * a + b;
                }
            }
        }
        return best;
    }

    public int shows(int kin, int cell) {
        if (!family.has(kin) || !Cells.isCell(cell)) return finding(BEYOND);
        trial.become(family);
        if (!Cells.has(trial.shownBy(kin), cell)) return finding(NONE);
        for (int n = 0; n < MOST_YEARS_SEARCHED; n++) {
            trial.live(1);
            if (!Cells.has(trial.shownBy(kin), cell)) return n;
        }
        return MOST_YEARS_SEARCHED;
    }

    // ---- told lands

    public int fits(int s, int kin) {
        int wrong = wrongToTell(s, kin);
        if (wrong != FINE) return finding(wrong);
        return choicesAsTold(s, kin, Family.TURN, TURNS);
    }

    public int kinds(int s, int kin) {
        int wrong = wrongToTell(s, kin);
        if (wrong != FINE) return finding(wrong);
        return choicesAsTold(s, kin, Family.KIND, Family.KINDS);
    }

    public int spots(int s, int kin) {
        int wrong = wrongToTell(s, kin);
        if (wrong != FINE) return finding(wrong);
        int cells = 0;
        for (int cell = 0; cell < Cells.AMOUNT; cell++) {
            trial.become(family);
            trial.flip(kin, cell);
            if (goesAsTold(s)) cells |= 1 << cell;
        }
        return cells;
    }

    // ---- births by draws

    public int moles(int n) {
        if (!within(n, 1, MOST_MOLES)) return finding(BEYOND);
        if (!hasYearsLeft(n)) return finding(STATE);
        for (int i = 0; i < n; i++) {
            int one = family.draw() % Family.MOST_KIN;
            int cell = family.draw() % Cells.AMOUNT;
            if (family.has(one)) family.flip(one, cell);
            family.live(1);
        }
        return family.knownCells();
    }

    public long odds(int n, int what) {
        if (!within(n, 0, MOST_ODDS) || !within(what, 0, 1)) return finding(BEYOND);
        int above = Cells.amount(family.knownCells());
        int below = Cells.AMOUNT;
        // Halving one CELL's odds first keeps both powers in a long, and in lowest terms.
        while (below > 1 && above % 2 == 0) {
            above /= 2;
            below /= 2;
        }
        return what == 0 ? power(above, n) : power(below, n);
    }

    public int seed(int v) {
        int was = family.luck();
        family.setLuck(v);
        return was;
    }

    // ---- texts

    public int feed(int bytes, int n) {
        if (!within(n, 1, 4)) return finding(BEYOND);
        if (!tape.hasRoom(n)) return finding(FULL);
        return tape.append(bytes, n);
    }

    public int wipe() {
        return tape.empty();
    }

    public int text() {
        trial.become(family);
        int items = tape.read(trial);
        tape.empty();
        if (items >= 0) family.become(trial);
        return items;
    }

    // ---- spots, sheets

    public int hold(int spot, int kin) {
        if (!Family.isSpot(spot)) return finding(BEYOND);
        if (kin != NOBODY && !family.has(kin)) return finding(BEYOND);
        family.setHeld(spot, kin);
        return 1;
    }

    public int as(int spot, int kind) {
        if (!Family.isSpot(spot) || !isKind(kind)) return finding(BEYOND);
        int one = family.heldAt(spot);
        if (one == NOBODY) return finding(MISSING);
        if (!Family.isUnder(family.tell(one, Family.KIND), kind)) return finding(NOT_OF_KIND);
        return one;
    }

    public int sheet(int s, int bits, int n) {
        boolean areBits = bits == 0 || bits == 8 || bits == 16 || bits == 32;
        if (!Sheets.isSheet(s) || !areBits) return finding(BEYOND);
        if (n < 0) return finding(SIZE);
        if (n > Sheets.MOST_NUMBERS) return finding(BEYOND);
        return sheets.begin(s, bits, n);
    }

    public int write(int s, int i, int v) {
        if (!Sheets.isSheet(s)) return finding(BEYOND);
        if (sheets.isMissing(s)) return finding(MISSING);
        if (!sheets.hasNumber(s, i)) return finding(BEYOND);
        sheets.put(s, i, v);
        return 1;
    }

    public int copy(int s, int from, int t, int to, int n) {
        if (!Sheets.isSheet(s) || !Sheets.isSheet(t)) return finding(BEYOND);
        if (sheets.isMissing(s) || sheets.isMissing(t)) return finding(MISSING);
        if (!sheets.haveSameBits(s, t)) return finding(NOT_OF_KIND);
        if (!sheets.hasPart(s, from, n) || !sheets.hasPart(t, to, n)) return finding(BEYOND);
        sheets.move(s, from, t, to, n);
        return n;
    }

    public int load(int s) {
        int wrong = wrongToRead(s);
        if (wrong != FINE) return finding(wrong);
        for (int i = 0; i < sheets.length(s); i++) {
            int mark = sheets.number(s, i);
            if (!family.has(i) || !Cells.isSet(mark)) return i;
            family.put(i, Family.MARK, mark);
        }
        return sheets.length(s);
    }

    public int judge(int s) {
        int wrong = wrongToRead(s);
        if (wrong != FINE) return finding(wrong);
        for (int i = 0; i < sheets.length(s); i++) {
            if (!family.has(i) || sheets.number(s, i) != family.shownBy(i)) return 1 + i;
        }
        return 0;
    }

    // ---- images

    public int image() {
        kept.become(family);
        isKept = true;
        return 1;
    }

    public int undo() {
        if (!isKept) return finding(NONE);
        family.become(kept);
        return family.yearNow();
    }

    public int tear() {
        int was = isKept ? 1 : 0;
        isKept = false;
        return was;
    }

    public int count(int what) {
        switch (what) {
            case 0: return family.yearNow();
            case 1: return family.amount();
            case 2: return Cells.amount(family.knownCells());
            case 3: return Integer.bitCount(family.laidOnes());
            case 4: return family.agesTogether();
            case 5: return tape.amount();
            case 6: return family.luck();
            case 7: return family.spotsTaken();
            default: return finding(BEYOND);
        }
    }

    public int status(int which) {
        if (which == -1) return findingsTogether();
        if (!within(which, 0, FINDINGS - 1)) return finding(BEYOND);
        return findings[which];
    }

    // ---- what the acts ask

    private static boolean within(int v, int least, int most) {
        return v >= least && v <= most;
    }

    private static boolean isKind(int kind) {
        return within(kind, 0, Family.KINDS - 1);
    }

    private static boolean isTurn(int t) {
        return within(t, 0, TURNS - 1);
    }

    private static boolean isAmount(int v) {
        return within(v, 0, Cells.AMOUNT);
    }

    private boolean areTwo(int a, int b) {
        return family.has(a) && family.has(b) && a != b;
    }

    private boolean hasYearsLeft(int n) {
        return family.yearNow() + n <= LATEST_YEAR;
    }

    private boolean canBecome(int one, int what, int v) {
        switch (what) {
            case Family.KIND: return isKind(v);
            case Family.PARENT: return v == NOBODY || areTwo(one, v);
            case Family.MARK: return Cells.isSet(v);
            case Family.TURN: return isTurn(v);
            case Family.AGE: return within(v, 0, Family.OLDEST);
            case Family.LAID: return within(v, 0, 1);
            default: return false;
        }
    }

    /** Whether a set has fewer members than another one (that was found earlier, so is less). */
    private static boolean isFewer(int some, int others) {
        return Integer.bitCount(some) < Integer.bitCount(others);
    }

    private static long power(int base, int n) {
        long product = 1;
        for (int i = 0; i < n; i++) product *= base;
        return product;
    }

    // ---- findings

    private int finding(int which) {
        if (within(which, 0, FINDINGS - 1)) findings[which]++;
        return LOW - which;
    }

    private int findingsTogether() {
        int all = 0;
        for (int which = 0; which < FINDINGS; which++) all += findings[which];
        return all;
    }

    private int wrongToRead(int s) {
        if (!Sheets.isSheet(s)) return BEYOND;
        return sheets.isMissing(s) ? MISSING : FINE;
    }

    private int wrongToTell(int s, int one) {
        int wrong = wrongToRead(s);
        if (wrong != FINE) return wrong;
        return family.has(one) ? FINE : BEYOND;
    }

    // ---- trials

    private int bestChoice(int one, int what, int choices, int n) {
        int best = 0;
        int most = -1;
        for (int choice = 0; choice < choices; choice++) {
            trial.become(family);
            trial.put(one, what, choice);
            trial.live(n);
            int seen = Cells.amount(trial.knownCells());
            if (seen > most) {
                most = seen;
                best = choice;
            }
        }
        return best;
    }

    private int choicesAsTold(int s, int one, int what, int choices) {
        int fitting = 0;
        for (int choice = 0; choice < choices; choice++) {
            trial.become(family);
            trial.put(one, what, choice);
            if (goesAsTold(s)) fitting |= 1 << choice;
        }
        return fitting;
    }

    /** Lets the trial live on for as long as it is as the sheet tells. */
    private boolean goesAsTold(int s) {
        for (int i = 0; i < sheets.length(s); i++) {
            if (i > 0) trial.live(1);
            int told = sheets.number(s, i);
            if (told != ANY && told != trial.knownCells()) return false;
        }
        return true;
    }

    /** Sets of CELLS: bit 4 * row + column. */
    private static final class Cells {
        static final int AMOUNT = 16;
        static final int ALL = 0xFFFF;
        static final int ROW_0 = 0x000F;
        static final int COLUMN_0 = 0x1111;
        static final int COLUMN_1 = 0x2222;
        static final int COLUMN_2 = 0x4444;
        static final int COLUMN_3 = 0x8888;

        static boolean isCell(int cell) {
            return cell >= 0 && cell < AMOUNT;
        }

        static boolean isSet(int cells) {
            return cells >= 0 && cells <= ALL;
        }

        static boolean has(int cells, int cell) {
            return (cells >>> cell & 1) == 1;
        }

        static int amount(int cells) {
            return Integer.bitCount(cells);
        }

        static int mirrored(int cells) {
            return (cells & COLUMN_0) << 3 | (cells & COLUMN_1) << 1
                    | (cells & COLUMN_2) >>> 1 | (cells & COLUMN_3) >>> 3;
        }

        /** Rows become columns: each diagonal moves by 3 for each step that it is off the main one. */
        static int transposed(int cells) {
            return cells & 0x8421
                    | (cells & 0x0842) << 3 | (cells & 0x4210) >>> 3
                    | (cells & 0x0084) << 6 | (cells & 0x2100) >>> 6
                    | (cells & 0x0008) << 9 | (cells & 0x1000) >>> 9;
        }

        static int turnedTimes(int cells, int t) {
            int after = cells;
            for (int i = 0; i < t; i++) after = mirrored(transposed(after));
            return after;
        }

        static int besides(int cells) {
            int columns = (cells & ~COLUMN_3) << 1 | (cells & ~COLUMN_0) >>> 1;
            int rows = cells << 4 | cells >>> 4;
            return (columns | rows) & ALL & ~cells;
        }

        static int leastOf(int cells) {
            return cells & -cells;
        }

        static int greatestOf(int cells) {
            int cell = ALL + 1;
            while (cell > 0 && (cells & cell) == 0) cell >>>= 1;
            return cell;
        }
    }

    /** KIN, YEAR, z and SPOTS: all that an image keeps. */
    private static final class Family {
        static final int MOST_KIN = 8;
        static final int OLDEST = 999;
        static final int SPOTS = 10;
        static final int CELL_5 = 1 << 5;

        static final int KIND = 0;
        static final int PARENT = 1;
        static final int MARK = 2;
        static final int TURN = 3;
        static final int AGE = 4;
        static final int LAID = 5;
        static final int FACTS = 6;
        static final int SHOWN = 6;
        static final int GROWN = 7;
        static final int FADED = 8;

        static final int KIN = 0;
        static final int COUSIN = 1;
        static final int UNCLE = 2;
        static final int CHILD = 3;
        static final int BABY = 4;
        static final int ADOPTED = 5;
        static final int SAILOR = 6;
        static final int KINDS = 7;

        private final int[][] facts = new int[FACTS][MOST_KIN];
        private final int[] held = new int[SPOTS];
        private int size;
        private int year;
        private int z;

        Family() {
            for (int spot = 0; spot < SPOTS; spot++) held[spot] = NOBODY;
            z = 1;
        }

        void become(Family other) {
            for (int what = 0; what < FACTS; what++) {
                System.arraycopy(other.facts[what], 0, facts[what], 0, MOST_KIN);
            }
            System.arraycopy(other.held, 0, held, 0, SPOTS);
            size = other.size;
            year = other.year;
            z = other.z;
        }

        // ---- one of KIN

        boolean has(int one) {
            return one >= 0 && one < size && one < MOST_KIN;
        }

        boolean isFull() {
            return size >= MOST_KIN;
        }

        int amount() {
            return size;
        }

        int add(int kind, int parent, int mark) {
            if (isFull()) return NOBODY;
            int one = size;
            size++;
            put(one, KIND, kind);
            put(one, PARENT, parent);
            put(one, MARK, mark);
            put(one, TURN, 0);
            put(one, AGE, 0);
            put(one, LAID, 1);
            return one;
        }

        void put(int one, int what, int v) {
            if (has(one) && what >= 0 && what < FACTS) facts[what][one] = v;
        }

        void flip(int one, int cell) {
            if (has(one)) facts[MARK][one] ^= 1 << cell;
        }

        int tell(int one, int what) {
            if (!has(one)) return NOBODY;
            switch (what) {
                case SHOWN: return shownBy(one);
                case GROWN: return grownBy(one);
                case FADED: return fadesFrom(facts[KIND][one]);
                default: return what >= 0 && what < FACTS ? facts[what][one] : NOBODY;
            }
        }

        // ---- what each KIND shows, grows and fades

        static int parentOf(int kind) {
            switch (kind) {
                case COUSIN: case UNCLE: case ADOPTED: return KIN;
                case CHILD: return COUSIN;
                case BABY: return CHILD;
                case SAILOR: return UNCLE;
                default: return NOBODY;
            }
        }

        /** Whether a KIND is another one, or is under it. */
        static boolean isUnder(int kind, int other) {
            int above = kind;
            for (int level = 0; level < KINDS && above != NOBODY; level++) {
                if (above == other) return true;
                above = parentOf(above);
            }
            return false;
        }

        int shownBy(int one) {
            if (!has(one)) return 0;
            int turned = Cells.turnedTimes(facts[MARK][one], facts[TURN][one]);
            switch (facts[KIND][one]) {
                case COUSIN: return Cells.mirrored(turned);
                case CHILD: return Cells.mirrored(turned) | inheritedBy(one);
                case BABY: return facts[AGE][one] == 0 ? 0 : Cells.mirrored(turned) | inheritedBy(one);
                case UNCLE: return Cells.ALL & ~turned;
                case SAILOR: return Cells.ALL & ~turned & ~Cells.ROW_0;
                case ADOPTED: return facts[MARK][one] | CELL_5;
                default: return turned;
            }
        }

        private int inheritedBy(int one) {
            int parent = facts[PARENT][one];
            return has(parent) ? facts[MARK][parent] : 0;
        }

        private int grownBy(int one) {
            switch (facts[KIND][one]) {
                case CHILD: return 2;
                case BABY: return facts[AGE][one] < 2 ? 0 : 2;
                case UNCLE: return 0;
                case SAILOR: return year % 4 == 0 ? 1 : 0;
                case ADOPTED: return facts[LAID][one];
                default: return 1;
            }
        }

        private static int fadesFrom(int kind) {
            switch (kind) {
                case KIN: return 60;
                case COUSIN: case CHILD: case BABY: return 40;
                default: return 0;
            }
        }

        // ---- years

        int yearNow() {
            return year;
        }

        void live(int years) {
            for (int n = 0; n < years; n++) {
                for (int one = 0; one < size; one++) liveOn(one);
                year = Math.min(year + 1, LATEST_YEAR);
            }
        }

        private void liveOn(int one) {
            int growing = grownBy(one);
            for (int i = 0; i < growing; i++) grow(one);
            int age = facts[AGE][one];
            int fading = fadesFrom(facts[KIND][one]);
            if (fading != 0 && age >= fading) fade(one);
            facts[AGE][one] = Math.min(age + 1, OLDEST);
        }

        private void grow(int one) {
            int mark = facts[MARK][one];
            int next = mark == 0 ? 1 << 2 * one : Cells.leastOf(Cells.besides(mark));
            facts[MARK][one] = mark | next;
        }

        private void fade(int one) {
            int mark = facts[MARK][one];
            facts[MARK][one] = mark & ~Cells.greatestOf(mark);
        }

        // ---- what several show

        int everyone() {
            return (1 << size) - 1;
        }

        int laidOnes() {
            int laid = 0;
            for (int one = 0; one < size; one++) laid |= facts[LAID][one] << one;
            return laid;
        }

        int shownTogether(int some) {
            int cells = 0;
            for (int one = 0; one < size; one++) {
                if ((some >>> one & 1) == 1) cells |= shownBy(one);
            }
            return cells;
        }

        int knownCells() {
            int cells = 0;
            for (int one = 0; one < size; one++) {
                if (facts[LAID][one] == 1) cells |= shownBy(one);
            }
            return cells;
        }

        int knownByOne() {
            int once = 0;
            int oftener = 0;
            for (int one = 0; one < size; one++) {
                int cells = facts[LAID][one] == 1 ? shownBy(one) : 0;
                oftener |= once & cells;
                once |= cells;
            }
            return once & ~oftener;
        }

        int sharedBy(int a, int b) {
            return shownBy(a) & shownBy(b);
        }

        int showersOf(int cell) {
            int ones = 0;
            for (int one = 0; one < size; one++) {
                if (Cells.has(shownBy(one), cell)) ones |= 1 << one;
            }
            return ones;
        }

        int showsMost() {
            int best = NOBODY;
            int most = -1;
            for (int one = 0; one < size; one++) {
                int cells = Cells.amount(shownBy(one));
                if (cells > most) {
                    most = cells;
                    best = one;
                }
            }
            return best;
        }

        int markedCells() {
            int all = 0;
            for (int one = 0; one < size; one++) all += Cells.amount(facts[MARK][one]);
            return all;
        }

        int agesTogether() {
            int all = 0;
            for (int one = 0; one < size; one++) all += facts[AGE][one];
            return all;
        }

        // ---- draws

        int luck() {
            return z;
        }

        void setLuck(int v) {
            z = v;
        }

        int draw() {
            z = z * 1103515245 + 12345;
            return z >>> 8;
        }

        // ---- SPOTS

        static boolean isSpot(int spot) {
            return spot >= 0 && spot < SPOTS;
        }

        int heldAt(int spot) {
            return isSpot(spot) ? held[spot] : NOBODY;
        }

        void setHeld(int spot, int one) {
            if (isSpot(spot)) held[spot] = one;
        }

        int spotsTaken() {
            int taken = 0;
            for (int spot = 0; spot < SPOTS; spot++) {
                if (held[spot] != NOBODY) taken++;
            }
            return taken;
        }
    }

    /** SHEETS 0 to 3; one of 0 bits is MISSING. */
    private static final class Sheets {
        static final int AMOUNT = 4;
        static final int MOST_NUMBERS = 40;

        private final int[][] rows = new int[AMOUNT][MOST_NUMBERS];
        private final int[] bitsOf = new int[AMOUNT];
        private final int[] lengths = new int[AMOUNT];

        static boolean isSheet(int s) {
            return s >= 0 && s < AMOUNT;
        }

        boolean isMissing(int s) {
            return !isSheet(s) || bitsOf[s] == 0;
        }

        boolean haveSameBits(int s, int t) {
            return isSheet(s) && isSheet(t) && bitsOf[s] == bitsOf[t];
        }

        int length(int s) {
            return isSheet(s) ? lengths[s] : 0;
        }

        boolean hasNumber(int s, int i) {
            return i >= 0 && i < length(s);
        }

        /** Whether a sheet has n numbers from one on; asked without a sum, which could wrap around. */
        boolean hasPart(int s, int from, int n) {
            return from >= 0 && n >= 0 && n <= length(s) && from <= length(s) - n;
        }

        int number(int s, int i) {
            return hasNumber(s, i) ? rows[s][i] : 0;
        }

        int begin(int s, int bits, int n) {
            if (!isSheet(s) || n < 0 || n > MOST_NUMBERS) return 0;
            bitsOf[s] = bits;
            lengths[s] = bits == 0 ? 0 : n;
            for (int i = 0; i < MOST_NUMBERS; i++) rows[s][i] = 0;
            return lengths[s];
        }

        void put(int s, int i, int v) {
            if (hasNumber(s, i)) rows[s][i] = lowest(v, bitsOf[s]);
        }

        private static int lowest(int v, int bits) {
            if (bits == 8) return (byte) v;
            return bits == 16 ? (short) v : v;
        }

        void move(int s, int from, int t, int to, int n) {
            if (!hasPart(s, from, n) || !hasPart(t, to, n)) return;
            System.arraycopy(rows[s], from, rows[t], to, n);
        }
    }

    /** THE TAPE, and the reader of its TEXT, one TOKEN after the other. */
    private static final class Tape {
        private static final int MOST_BYTES = 120;
        private static final int MOST_NUMBER = 99999;
        private static final int END = 0;
        private static final int WORD = 1;
        private static final int NUMBER = 2;
        private static final int SIGN = 3;
        private static final int NO_TOKEN = 4;

        private final int[] bytes = new int[MOST_BYTES];
        private int size;
        private int sort;
        private int place;
        private int behind;
        private int value;

        boolean hasRoom(int n) {
            return n <= MOST_BYTES - size;
        }

        int amount() {
            return size;
        }

        int append(int word, int n) {
            if (!hasRoom(n)) return size;
            for (int i = n - 1; i >= 0; i--) {
                bytes[size] = word >>> 8 * i & 255;
                size++;
            }
            return size;
        }

        int empty() {
            int had = size;
            size = 0;
            return had;
        }

        /** Tells a family all that the TEXT says: how many ITEMS, or -1 less the FAULT. */
        int read(Family told) {
            behind = 0;
            for (int items = 1; items <= MOST_BYTES; items++) {
                nextToken();
                boolean isItem = isWord("aged") ? readAged(told) : readNewOne(told);
                if (!isItem) return -1 - place;
                if (sort == END) return items;
                if (sort != SIGN) return -1 - place;
            }
            return -1 - place;
        }

        private boolean readNewOne(Family told) {
            int kind = kindRead();
            if (kind == NOBODY || told.isFull()) return false;
            int one = told.add(kind, NOBODY, 0);
            nextToken();
            if (isWord("of") && !readFact(told, one, Family.PARENT, one - 1)) return false;
            if (isWord("mark") && !readFact(told, one, Family.MARK, Cells.ALL)) return false;
            if (isWord("turn") && !readFact(told, one, Family.TURN, TURNS - 1)) return false;
            if (isWord("up")) {
                told.put(one, Family.LAID, 0);
                nextToken();
            }
            return true;
        }

        private boolean readAged(Family told) {
            nextToken();
            if (!isNumberTo(told.amount() - 1)) return false;
            return readFact(told, value, Family.AGE, Family.OLDEST);
        }

        /** Goes on from the TOKEN ahead of the NUMBER to the one behind it. */
        private boolean readFact(Family told, int one, int what, int most) {
            nextToken();
            if (!isNumberTo(most)) return false;
            told.put(one, what, value);
            nextToken();
            return true;
        }

        private boolean isNumberTo(int most) {
            return sort == NUMBER && value <= most;
        }

        private int kindRead() {
            if (isWord("kin")) return Family.KIN;
            if (isWord("cousin")) return Family.COUSIN;
            if (isWord("uncle")) return Family.UNCLE;
            if (isWord("child")) return Family.CHILD;
            if (isWord("baby")) return Family.BABY;
            if (isWord("adopted")) return Family.ADOPTED;
            return isWord("sailor") ? Family.SAILOR : NOBODY;
        }

        private boolean isWord(String word) {
            if (sort != WORD || word.length() != behind - place) return false;
            for (int i = 0; i < word.length(); i++) {
                if (byteAt(place + i) != word.charAt(i)) return false;
            }
            return true;
        }

        private void nextToken() {
            while (behind < size && byteAt(behind) == ' ') behind++;
            place = behind;
            int first = byteAt(place);
            if (first == -1) {
                sort = END;
            } else if (isLetter(first)) {
                sort = WORD;
                while (behind < size && isLetter(byteAt(behind))) behind++;
            } else if (isDigit(first)) {
                sort = NUMBER;
                readDigits();
            } else {
                sort = first == ';' ? SIGN : NO_TOKEN;
                behind++;
            }
        }

        private void readDigits() {
            value = 0;
            while (behind < size && isDigit(byteAt(behind))) {
                // One above the most is as wrong as any more, and doesn't wrap around.
                value = Math.min(10 * value + byteAt(behind) - '0', MOST_NUMBER + 1);
                behind++;
            }
        }

        private static boolean isLetter(int b) {
            return b >= 'a' && b <= 'z';
        }

        private static boolean isDigit(int b) {
            return b >= '0' && b <= '9';
        }

        /** The byte at a place, -1 behind the last one. */
        private int byteAt(int at) {
            return at >= 0 && at < size && at < MOST_BYTES ? bytes[at] : -1;
        }
    }
}
