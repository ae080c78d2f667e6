/** What "Terms" says of KIN and of their KINDS. */
final class KindsEdges extends Edges {
    /** Rows: XX.. and X... */
    private static final int MARK = 19;
    private static final int MARK_TURNED = set(3, 7, 2);
    private static final int MARK_MIRRORED = set(3, 2, 7);

    KindsEdges(Held held) {
        super(held);
    }

    @Override
    void run() {
        atFirst();
        kindsUnder();
        shownOfKin();
        shownOfChildren();
        shownOfUncles();
        shownOfAdopted();
        grown();
        grownNow();
        faded();
    }

    private void atFirst() {
        terms("KIN 0, 1, .. (at most 8)");
        for (int k = 0; k < 8; k++) due("one more", x.kin(0, 0), k);
        due("kin", x.kin(0, 0), FULL);
        due("birth", x.birth(0, 0, 1), FULL);
        Lands.feed(x, "kin");
        due("text", x.text(), -1);
        due("count(1)", x.count(1), 8);

        terms("each with a PARENT (another one, or -1: nobody, at first)");
        kin(5);
        due("of kin", x.of(0, 1), -1);
        Lands.feed(x, "cousin");
        x.text();
        due("of a TEXT", x.of(1, 1), -1);

        terms("a MARK (a set of CELLS; 0 at first), a TURN (0 to 3; 0 at first), an AGE (0 to 999; 0 at first)");
        kin(5, 6);
        x.birth(0, 0, 1);
        Lands.feed(x, "uncle");
        x.text();
        dueMark("MARK of a TEXT", 3, 0);
        for (int k = 0; k < 4; k++) {
            due("TURN of " + k, x.of(k, 3), 0);
            due("AGE of " + k, x.of(k, 4), 0);
        }

        terms("LAID on THE BED or not (0 or 1; 1 at first)");
        kin(5, 6);
        x.birth(0, 0, 1);
        Lands.feed(x, "baby");
        x.text();
        for (int k = 0; k < 4; k++) due("LAID " + k, x.of(k, 5), 1);
    }

    private void kindsUnder() {
        terms("0 KIN; 1 COUSIN, 2 UNCLE, 5 ADOPTED under KIN; 3 CHILD under COUSIN; 4 BABY under CHILD; 6 SAILOR");
        for (int k = 0; k < 7; k++) {
            x.kin(k, 0);
            x.hold(k, k);
            due("each is under KIN, " + k, x.as(k, 0), k);
        }
        due("a BABY is a COUSIN, two levels on", x.as(4, 1), 4);
        due("a SAILOR is an UNCLE", x.as(6, 2), 6);
        due("a SAILOR is no COUSIN", x.as(6, 1), KIND);
        due("an ADOPTED is no COUSIN", x.as(5, 1), KIND);
        due("a COUSIN is no CHILD", x.as(1, 3), KIND);
        due("a KIN is no COUSIN", x.as(0, 1), KIND);
        due("KIND -1", x.kin(-1, 0), BEYOND);
        due("KIND 7", x.kin(7, 0), BEYOND);
    }

    private void shownOfKin() {
        terms("KIN: MARK, TURNED as often as TURN tells");
        kin(0);
        due("an empty MARK", x.of(0, 6), 0);
        x.change(0, 2, ALL);
        turned(0, 3);
        due("a full MARK", x.of(0, 6), ALL);
        x.change(0, 2, MARK);
        int[] shown = {MARK, MARK_TURNED, set(15, 14, 11), set(12, 8, 13)};
        for (int turn = 0; turn < 4; turn++) {
            turned(0, turn);
            due("TURN " + turn, x.of(0, 6), shown[turn]);
        }

        terms("COUSIN: that of a KIN, MIRRORED");
        x.kin(1, MARK);
        int[] mirrored = {MARK_MIRRORED, set(0, 4, 1), set(12, 13, 8), set(15, 11, 14)};
        for (int turn = 0; turn < 4; turn++) {
            turned(0, turn);
            due("TURN " + turn, x.of(0, 6), mirrored[turn]);
        }
        x.change(0, 2, 0);
        due("an empty MARK", x.of(0, 6), 0);
        x.change(0, 2, ALL);
        due("a full MARK", x.of(0, 6), ALL);
    }

    private void shownOfChildren() {
        terms("CHILD: as a COUSIN, and what MARK of its PARENT (if it has one) has, too, that isn't TURNED");
        x.kin(3, MARK);
        x.kin(1, 0);
        due("it has no PARENT", x.of(0, 6), MARK_MIRRORED);
        x.change(0, 1, 1);
        due("the PARENT has an empty MARK", x.of(0, 6), MARK_MIRRORED);
        x.change(1, 2, set(0, 15));
        turned(1, 1);
        due("not TURNED, nor MIRRORED", x.of(0, 6), MARK_MIRRORED | set(0, 15));
        turned(0, 1);
        due("nor with the CHILD's TURN", x.of(0, 6), set(0, 4, 1, 15));
        x.change(1, 5, 0);
        due("the PARENT isn't LAID", x.of(0, 6), set(0, 4, 1, 15));
        x.change(0, 1, -1);
        due("nobody again", x.of(0, 6), set(0, 4, 1));
        x.change(1, 1, 0);
        due("no other KIND has it", x.of(1, 6), set(0, 15));

        terms("BABY: as a CHILD, but nothing, if AGE is 0");
        x.kin(4, MARK);
        x.kin(0, set(15));
        x.change(0, 1, 1);
        due("AGE 0", x.of(0, 6), 0);
        aged(0, 1);
        due("AGE 1", x.of(0, 6), MARK_MIRRORED | set(15));
        aged(0, 999);
        due("AGE 999", x.of(0, 6), MARK_MIRRORED | set(15));
        x.change(0, 0, 3);
        aged(0, 0);
        due("a CHILD of AGE 0", x.of(0, 6), MARK_MIRRORED | set(15));
    }

    private void shownOfUncles() {
        terms("UNCLE: all CELLS that a KIN with its MARK doesn't");
        x.kin(2, 0);
        due("an empty MARK", x.of(0, 6), ALL);
        x.change(0, 2, ALL);
        due("a full MARK", x.of(0, 6), 0);
        x.change(0, 2, MARK);
        turned(0, 1);
        due("TURNED", x.of(0, 6), ALL - MARK_TURNED);

        terms("SAILOR: as an UNCLE, but nothing of row 0");
        x.kin(6, 0);
        due("an empty MARK", x.of(0, 6), 0xFFF0);
        x.change(0, 2, ALL);
        due("a full MARK", x.of(0, 6), 0);
        x.change(0, 2, MARK);
        turned(0, 1);
        due("TURNED", x.of(0, 6), 0xFFF0 - set(7));
        x.change(0, 2, 15);
        turned(0, 0);
        due("row 0 alone", x.of(0, 6), 0xFFF0);
    }

    private void shownOfAdopted() {
        terms("ADOPTED: MARK, as it is, and CELL 5");
        x.kin(5, 0);
        due("an empty MARK", x.of(0, 6), set(5));
        x.change(0, 2, ALL);
        due("a full MARK", x.of(0, 6), ALL);
        x.change(0, 2, MARK);
        turned(0, 1);
        due("not TURNED", x.of(0, 6), MARK | set(5));
        dueMark("CELL 5 isn't in its MARK", 0, MARK);
    }

    private void grown() {
        terms("GROWS (CELLS in a YEAR): KIN: 1");
        kin(ALL);
        due("a full MARK", x.of(0, 7), 1);
        aged(0, 999);
        x.change(0, 5, 0);
        due("an old one, not LAID", x.of(0, 7), 1);

        terms("COUSIN: as a KIN", "GROWS");
        x.kin(1, 0);
        x.change(0, 5, 0);
        due("not LAID", x.of(0, 7), 1);

        terms("CHILD: twice a COUSIN");
        x.kin(3, 0);
        due("AGE 0", x.of(0, 7), 2);
        x.go(1);
        dueMark("an empty MARK: twice its number, then BESIDE that", 0, set(0, 1));

        terms("BABY: as a CHILD, but 0, if AGE is below 2");
        x.kin(4, 1);
        int[] due = {0, 0, 2, 2};
        int[] marks = {set(0), set(0), set(0, 1, 2), set(0, 1, 2, 3, 4)};
        for (int age = 0; age < 4; age++) {
            due("AGE " + age, x.of(0, 7), due[age]);
            x.go(1);
            dueMark("MARK behind AGE " + age, 0, marks[age]);
        }
    }

    private void grownNow() {
        terms("UNCLE: 0", "GROWS");
        x.kin(2, 0);
        for (int year = 0; year <= 4; year++) {
            due("YEAR " + year, x.of(0, 7), 0);
            x.go(1);
            dueMark("an empty MARK stays empty", 0, 0);
        }

        terms("SAILOR: as an UNCLE, and 1, if YEAR is a multiple of 4");
        x.kin(6, 1);
        due("behind four: none but the first", x.ahead(0, 2, 4), set(0, 1));
        due("behind five", x.ahead(0, 2, 5), set(0, 1, 2));
        int mark = 1;
        for (int year = 0; year <= 9; year++) {
            due("YEAR " + year, x.of(0, 7), year % 4 == 0 ? 1 : 0);
            x.go(1);
            if (year % 4 == 0) mark = mark << 1 | 1;
            dueMark("MARK behind YEAR " + year, 0, mark);
        }

        terms("ADOPTED: as a KIN, if it is LAID, else 0");
        x.kin(5, 1);
        due("LAID", x.of(0, 7), 1);
        x.go(1);
        dueMark("LAID", 0, 3);
        x.change(0, 5, 0);
        due("not LAID", x.of(0, 7), 0);
        x.go(1);
        dueMark("not LAID", 0, 3);
    }

    /** From which AGE on one of a KIND loses a CELL; 0: never. */
    private void dueFading(String words, int kind, int from) {
        terms(words, "FADES");
        x.kin(kind, ALL);
        due("FADES", x.of(0, 8), from);
        if (from > 0) {
            aged(0, from - 1);
            due("one YEAR too young", x.ahead(0, 2, 1), ALL);
            aged(0, from);
            due("old enough", x.ahead(0, 2, 1), ALL >> 1);
        }
        aged(0, 0);
        due("AGE 0", x.ahead(0, 2, 1), ALL);
        aged(0, 999);
        due("AGE 999", x.ahead(0, 2, 1), from > 0 ? ALL >> 1 : ALL);
    }

    private void faded() {
        dueFading("KIN: 60", 0, 60);
        dueFading("COUSIN: as a KIN, less 20", 1, 40);
        dueFading("CHILD, BABY: as a COUSIN", 3, 40);
        dueFading("CHILD, BABY: as a COUSIN", 4, 40);
        dueFading("UNCLE: 0", 2, 0);
        dueFading("SAILOR: 0", 6, 0);
        dueFading("ADOPTED: 0", 5, 0);
    }
}
