/** Promises 31 to 37, and what "Terms" says of SPOTS and SHEETS. */
final class SheetsEdges extends Edges {
    SheetsEdges(Held held) {
        super(held);
    }

    @Override
    void run() {
        spotsAndSheets();
        signs();
        hold();
        as();
        sheet();
        sheetRefused();
        write();
        writeRefused();
        copy();
        copyRefused();
        copyOfTooMany();
        load();
        loadRefused();
        judge();
        judgeRefused();
    }

    /** Numbers of a sheet that are sets, as MARKS of those who are there. */
    private void dueMarks(int s, int... marks) {
        x.load(s);
        for (int k = 0; k < marks.length; k++) due("number " + k + " of sheet " + s, x.of(k, 2), marks[k]);
    }

    private void spotsAndSheets() {
        terms("SPOTS 0 to 9 hold one of KIN or nothing (at first)");
        for (int spot = 0; spot < 10; spot++) due("nothing at first, " + spot, x.as(spot, 0), MISSING);
        kin(0, 0);
        for (int spot = 0; spot < 10; spot++) due("hold, " + spot, x.hold(spot, spot % 2), 1);
        for (int spot = 0; spot < 10; spot++) due("one of KIN, " + spot, x.as(spot, 0), spot % 2);
        due("SPOT -1", x.as(-1, 0), BEYOND);
        due("SPOT 10", x.as(10, 0), BEYOND);

        terms("SHEETS 0 to 3: rows of at most 40 numbers");
        for (int s = 0; s < 4; s++) due("40 numbers, " + s, x.sheet(s, 32, 40), 40);
        for (int s = 0; s < 4; s++) due("the last one of " + s, x.write(s, 39, 10 + s), 1);
        kin(0);
        for (int s = 0; s < 4; s++) {
            x.copy(s, 39, s, 0, 1);
            dueMarks(s, 10 + s);
        }
        due("41 numbers", x.sheet(0, 32, 41), BEYOND);

        terms("or MISSING (at first)");
        for (int s = 0; s < 4; s++) due("at first, " + s, x.judge(s), MISSING);
        x.sheet(3, 8, 0);
        due("that one isn't", x.judge(3), 0);
        due("another one is", x.judge(2), MISSING);
    }

    /** A number that is written to a sheet of so many bits is told as another one. */
    private void dueSign(int bits, int written, int told) {
        x = new SkinLands();
        kin(40000);
        x.change(0, 3, 1);
        Lands.sheet(x, 0, bits, written);
        String call = written + " of " + bits + " bits is " + told;
        due(call + ": any", x.fits(0, 0), told == -1 ? 15 : 0);
        due(call + ": a MARK", x.load(0), told >= 0 && told <= ALL ? 1 : 0);
        due(call + ": the MARK", x.of(0, 2), told >= 0 && told <= ALL ? told : 40000);
    }

    private void signs() {
        terms("told with their sign: of 8 bits 255 is -1");
        dueSign(8, 0, 0);
        dueSign(8, 127, 127);
        dueSign(8, 128, -128);
        dueSign(8, 255, -1);
        dueSign(8, -1, -1);
        dueSign(16, 0, 0);
        dueSign(16, 255, 255);
        dueSign(16, 32767, 32767);
        dueSign(16, 32768, -32768);
        dueSign(16, 65535, -1);
        dueSign(32, 65535, 65535);
        dueSign(32, 65536, 65536);
        dueSign(32, -1, -1);
        dueSign(32, Integer.MIN_VALUE, Integer.MIN_VALUE);

        sentence(34, "its lowest bits");
        dueSign(8, 256, 0);
        dueSign(8, 256 + 127, 127);
        dueSign(8, -129, 127);
        dueSign(8, Integer.MIN_VALUE, 0);
        dueSign(8, Integer.MAX_VALUE, -1);
        dueSign(16, 65536, 0);
        dueSign(16, 65536 + 32767, 32767);
        dueSign(16, -32769, 32767);
        dueSign(16, Integer.MAX_VALUE, -1);
        dueSign(32, Integer.MAX_VALUE, Integer.MAX_VALUE);
    }

    private void hold() {
        sentence(31, "A SPOT holds one of KIN, or nothing (-1): 1");
        due("nothing, though there is nobody", x.hold(0, -1), 1);
        kin(0, 0, 0, 0, 0, 0, 0, 0);
        due("the first SPOT, the first one", x.hold(0, 0), 1);
        due("the last SPOT, the last one", x.hold(9, 7), 1);
        due("the first", x.as(0, 0), 0);
        due("the last", x.as(9, 0), 7);
        due("nothing again", x.hold(9, -1), 1);
        due("it holds nothing", x.as(9, 0), MISSING);

        sentence(31, "BEYOND");
        refusesOutside(0, 9, "spot", (on, v) -> on.hold(v, 0));
        refusesOutside(-1, 4, "kin", (on, v) -> on.hold(0, v));
        refuses(BEYOND, "kin of none", SkinLands::new, on -> on.hold(0, 0));
    }

    private void as() {
        sentence(32, "What a SPOT holds as one of a kind (0 to 6): the number");
        for (int kind = 6; kind >= 0; kind--) {
            x.kin(kind, 0);
            x.hold(kind, 6 - kind);
        }
        due("as the least kind", x.as(0, 0), 6);
        due("as the most kind", x.as(6, 6), 0);

        sentence(32, "BEYOND");
        refusesOutside(0, 9, "spot", (on, v) -> on.as(v, 0));
        refusesOutside(0, 6, "kind", (on, v) -> on.as(0, v));

        sentence(32, "MISSING: it holds nothing");
        refuses(MISSING, "at first", on -> on.as(5, 0));
        kin(0);
        x.hold(9, 0);
        due("it holds something", x.as(9, 0), 0);
        x.hold(9, -1);
        due("nothing again", x.as(9, 0), MISSING);

        sentence(32, "KIND: it isn't of that kind, nor of one under it");
        refuses(KIND, "a BABY as an UNCLE", on -> on.as(9, 2));
        int[] above = {set(0), set(0, 1), set(0, 2), set(0, 1, 3), set(0, 1, 3, 4), set(0, 5), set(0, 2, 6)};
        for (int k = 0; k < 7; k++) {
            x.kin(k, 0);
            x.hold(k, k);
            for (int kind = 0; kind < 7; kind++) {
                due("KIND " + k + " as " + kind, x.as(k, kind), (above[k] >> kind & 1) == 1 ? k : KIND);
            }
        }
    }

    private void sheet() {
        sentence(33, "A sheet has n numbers, all 0, of 8, 16 or 32 bits");
        kin(0, 0, 0);
        for (int bits = 8; bits <= 32; bits *= 2) {
            due("none of " + bits, x.sheet(0, bits, 0), 0);
            due("no first number", x.write(0, 0, 1), BEYOND);
            due("three of " + bits, x.sheet(0, bits, 3), 3);
            for (int i = 0; i < 3; i++) x.write(0, i, 7);
            due("three anew", x.sheet(0, bits, 3), 3);
            due("all 0", x.judge(0), 0);
            due("40 of " + bits, x.sheet(0, bits, 40), 40);
            due("a last number", x.write(0, 39, 1), 1);
            due("no 41st number", x.write(0, 40, 1), BEYOND);
        }
        due("fewer", x.sheet(0, 32, 2), 2);
        due("no third number", x.write(0, 2, 1), BEYOND);

        sentence(33, "bits 0: it is MISSING: n (0 if it is MISSING)");
        due("MISSING, none", x.sheet(0, 0, 0), 0);
        x.sheet(0, 8, 3);
        due("it isn't", x.load(0), 0);
        due("MISSING, 40", x.sheet(0, 0, 40), 0);
        due("it is", x.load(0), MISSING);
        due("again", x.sheet(0, 0, 1), 0);
        due("it is", x.load(0), MISSING);
    }

    private void sheetRefused() {
        sentence(33, "BEYOND: no such sheet, other bits");
        refusesOutside(0, 3, "s", (on, v) -> on.sheet(v, 8, 1));
        refusesOutside(0, 3, "s, bits 0", (on, v) -> on.sheet(v, 0, 1));
        refusesOutside(0, 32, "bits", (on, v) -> on.sheet(0, v, 1));
        for (int bits : new int[] {1, 7, 9, 15, 17, 24, 31, 40, 64}) {
            refuses(BEYOND, "bits " + bits, on -> on.sheet(0, bits, 1));
        }

        sentence(33, "SIZE: n is below 0 (also with bits 0)");
        for (int n : new int[] {-1, Integer.MIN_VALUE}) {
            for (int bits : new int[] {8, 16, 32, 0}) {
                refuses(SIZE, "n " + n + ", bits " + bits, on -> on.sheet(0, bits, n));
            }
        }

        sentence(33, "BEYOND: n is above 40 (also with bits 0)");
        for (int n : new int[] {41, Integer.MAX_VALUE}) {
            for (int bits : new int[] {8, 16, 32, 0}) {
                refuses(BEYOND, "n " + n + ", bits " + bits, on -> on.sheet(0, bits, n));
            }
        }
    }

    private void write() {
        sentence(34, "Number i of a sheet becomes v");
        kin(0, 0, 0);
        x.sheet(0, 32, 3);
        due("the first one", x.write(0, 0, ALL), 1);
        due("the last one", x.write(0, 2, 9), 1);
        dueMarks(0, ALL, 0, 9);
        x.sheet(0, 32, 40);
        due("the last one of 40", x.write(0, 39, 5), 1);
        x.copy(0, 39, 0, 0, 1);
        dueMarks(0, 5, 0, 0);
    }

    private void writeRefused() {
        sentence(34, "BEYOND: no such sheet");
        refusesOutside(0, 3, "s", (on, v) -> on.write(v, 0, 1));

        sentence(34, "MISSING");
        refuses(MISSING, "sheet 3", on -> on.write(3, 0, 1));
        due("at first", x.write(0, 0, 1), MISSING);

        sentence(34, "BEYOND: no such number");
        refusesOutside(0, 4, "i", (on, v) -> on.write(0, v, 1));
        x.sheet(0, 8, 0);
        due("there is none", x.write(0, 0, 1), BEYOND);
        x.sheet(0, 8, 40);
        due("the 41st", x.write(0, 40, 1), BEYOND);
    }

    private void beginCopy(int promise, String words) {
        sentence(promise, words);
        kin(0, 0, 0, 0, 0);
        Lands.sheet(x, 0, 16, 1, 2, 3, 4, 5);
        Lands.sheet(x, 1, 16, 6, 7, 8);
    }

    private void copy() {
        beginCopy(35, "n numbers of a sheet from one on come to another one from one on");
        due("none, from begin to begin", x.copy(0, 0, 1, 0, 0), 0);
        due("none, from end to end", x.copy(0, 5, 1, 3, 0), 0);
        dueMarks(1, 6, 7, 8);
        due("the last one to the last one", x.copy(0, 4, 1, 2, 1), 1);
        dueMarks(1, 6, 7, 5);
        due("all of the lesser one", x.copy(1, 0, 0, 2, 3), 3);
        dueMarks(0, 1, 2, 6, 7, 5);
        x.sheet(2, 32, 40);
        x.sheet(3, 32, 40);
        x.write(2, 39, 9);
        due("all of 40", x.copy(2, 0, 3, 0, 40), 40);
        x.copy(3, 39, 3, 0, 1);
        dueMarks(3, 9, 0);

        beginCopy(35, "as they all were");
        due("onto itself, one place on", x.copy(0, 0, 0, 1, 4), 4);
        dueMarks(0, 1, 1, 2, 3, 4);
        beginCopy(35, "as they all were");
        due("onto itself, one place back", x.copy(0, 1, 0, 0, 4), 4);
        dueMarks(0, 2, 3, 4, 5, 5);
        beginCopy(35, "as they all were");
        due("onto itself, in its place", x.copy(0, 0, 0, 0, 5), 5);
        dueMarks(0, 1, 2, 3, 4, 5);
    }

    private void copyRefused() {
        sentence(35, "BEYOND: no such sheet (either)");
        refusesOutside(0, 3, "s", (on, v) -> on.copy(v, 0, 0, 0, 0));
        refusesOutside(0, 3, "t", (on, v) -> on.copy(0, 0, v, 0, 0));

        sentence(35, "MISSING: one is");
        refuses(MISSING, "the one", on -> on.copy(3, 0, 0, 0, 0));
        refuses(MISSING, "the other one", on -> on.copy(0, 0, 3, 0, 0));
        refuses(MISSING, "one and the same", on -> on.copy(3, 0, 3, 0, 0));

        sentence(35, "KIND: they are not of as many bits");
        refuses(KIND, "32 and 16", on -> on.copy(0, 0, 1, 0, 1));
        refuses(KIND, "16 and 32", on -> on.copy(1, 0, 0, 0, 1));
        refuses(KIND, "8 and 16", on -> on.copy(2, 0, 1, 0, 0));
        refuses(KIND, "16 and 8", on -> on.copy(1, 0, 2, 0, 0));
    }

    private void copyOfTooMany() {
        beginCopy(35, "BEYOND: one has not so many");
        due("the one", x.copy(0, 0, 0, 0, 6), BEYOND);
        due("the one, from its last on", x.copy(0, 4, 1, 0, 2), BEYOND);
        due("the one, from its end on", x.copy(0, 5, 1, 0, 1), BEYOND);
        due("the other one", x.copy(0, 0, 1, 0, 4), BEYOND);
        due("the other one, from its last on", x.copy(0, 0, 1, 2, 2), BEYOND);
        due("the other one, from its end on", x.copy(0, 0, 1, 3, 1), BEYOND);
        due("from behind its end, none", x.copy(0, 6, 1, 0, 0), BEYOND);
        due("to behind its end, none", x.copy(0, 0, 1, 4, 0), BEYOND);
        dueMarks(0, 1, 2, 3, 4, 5);
        dueMarks(1, 6, 7, 8);
        for (int far : new int[] {1 << 20, Integer.MAX_VALUE}) {
            refuses(BEYOND, "from " + far, on -> on.copy(0, far, 0, 0, 1));
            refuses(BEYOND, "to " + far, on -> on.copy(0, 0, 0, far, 1));
            refuses(BEYOND, "n " + far, on -> on.copy(0, 0, 0, 0, far));
            refuses(BEYOND, "from 1, n " + far, on -> on.copy(0, 1, 0, 0, far));
            refuses(BEYOND, "to 1, n " + far, on -> on.copy(0, 0, 0, 1, far));
            refuses(BEYOND, "from and n " + far, on -> on.copy(0, far, 0, 0, far));
        }

        beginCopy(35, "or from, to or n is below 0");
        for (int below : new int[] {-1, Integer.MIN_VALUE}) {
            refuses(BEYOND, "from " + below, on -> on.copy(0, below, 0, 0, 1));
            refuses(BEYOND, "from " + below + ", none", on -> on.copy(0, below, 0, 0, 0));
            refuses(BEYOND, "to " + below, on -> on.copy(0, 0, 0, below, 1));
            refuses(BEYOND, "to " + below + ", none", on -> on.copy(0, 0, 0, below, 0));
            refuses(BEYOND, "n " + below, on -> on.copy(0, 0, 0, 0, below));
            refuses(BEYOND, "n " + below + ", from and to 2", on -> on.copy(0, 2, 0, 2, below));
        }
    }

    private void load() {
        sentence(36, "Numbers of a sheet, from its begin on, become MARKS of KIN 0, 1, ..: how many came");
        kin(1, 2);
        Lands.sheet(x, 0, 32);
        due("none", x.load(0), 0);
        Lands.sheet(x, 0, 32, 0);
        due("one", x.load(0), 1);
        due("its MARK", x.of(0, 2), 0);
        due("the other one's", x.of(1, 2), 2);
        kin(0, 0, 0, 0, 0, 0);
        Lands.sheet(x, 0, 32, 11, 12, 13, 14, 15, 16, 17, 18);
        due("all eight", x.load(0), 8);
        for (int k = 0; k < 8; k++) due("MARK " + k, x.of(k, 2), 11 + k);

        sentence(36, "It ends at the first that isn't 0 to 65535");
        kin(1, 2, 3);
        Lands.sheet(x, 0, 32, 0, ALL, 5);
        due("the least and the most come", x.load(0), 3);
        Lands.sheet(x, 0, 32, 7, 65536, 8);
        due("65536", x.load(0), 1);
        due("came", x.of(0, 2), 7);
        due("didn't come", x.of(1, 2), ALL);
        due("nor did one behind it", x.of(2, 2), 5);
        Lands.sheet(x, 0, 32, 9, 10, -1);
        due("-1", x.load(0), 2);
        due("didn't come", x.of(2, 2), 5);
        Lands.sheet(x, 0, 32, Integer.MIN_VALUE, 1, 1);
        due("the first one", x.load(0), 0);
        due("no finding", x.status(-1), 0);

        sentence(36, "or for which there is no such one");
        x.sheet(0, 8, 40);
        due("nobody", x.load(0), 0);
        kin(1, 2);
        due("two", x.load(0), 2);
        kin(1, 2, 3, 4, 5, 6);
        due("all eight", x.load(0), 8);
        due("the last one's MARK", x.of(7, 2), 0);
        due("no finding", x.status(-1), 0);
    }

    private void loadRefused() {
        sentence(36, "BEYOND: no such sheet");
        refusesOutside(0, 3, "s", (on, v) -> on.load(v));

        sentence(36, "MISSING");
        refuses(MISSING, "sheet 3", on -> on.load(3));
        due("at first", x.load(0), MISSING);
    }

    private void judge() {
        sentence(37, "0 if so; else 1 and the place of the first that isn't so");
        kin(0, ALL, 3);
        Lands.sheet(x, 0, 32);
        due("a sheet without numbers", x.judge(0), 0);
        Lands.sheet(x, 0, 32, 0, ALL);
        due("fewer than there are", x.judge(0), 0);
        Lands.sheet(x, 0, 32, 0, ALL, 3);
        due("all", x.judge(0), 0);
        Lands.sheet(x, 0, 32, 1, ALL, 2);
        due("the first place", x.judge(0), 1);
        Lands.sheet(x, 0, 32, 0, ALL, 2);
        due("the last place", x.judge(0), 3);
        Lands.sheet(x, 0, 32, 0, ALL, 3, 0);
        due("there is no such one", x.judge(0), 4);
        Lands.sheet(x, 0, 16, 0, ALL, 3);
        due("of 16 bits it is -1, which isn't so", x.judge(0), 2);
        kin(4, 5, 6, 7, 8);
        x.sheet(0, 32, 40);
        for (int k = 0; k < 8; k++) x.write(0, k, x.of(k, 2));
        due("there is no 9th", x.judge(0), 9);
        due("no finding", x.status(-1), 0);
    }

    private void judgeRefused() {
        sentence(37, "BEYOND: no such sheet");
        refusesOutside(0, 3, "s", (on, v) -> on.judge(v));

        sentence(37, "MISSING");
        refuses(MISSING, "sheet 3", on -> on.judge(3));
        due("at first", x.judge(0), MISSING);
    }
}
