/** Promises 28 to 30, and what "Terms" says of TEXTS. */
final class TextEdges extends Edges {
    private static final String EIGHT = "kin;kin;kin;kin;kin;kin;kin;kin";

    TextEdges(Held held) {
        super(held);
    }

    @Override
    void run() {
        feed();
        feedRefused();
        wipe();
        text();
        textWithFault();
        tape();
        tokens();
        items();
        parents();
        numbers();
        agedItems();
        faults();
        endsTooEarly();
    }

    /** A TEXT on a new object, so that no object gets more calls than it is promised for. */
    private void read(String text, int want) {
        x = new SkinLands();
        readOn(text, want);
    }

    /** A TEXT behind those that were read already. */
    private void readOn(String text, int want) {
        Lands.feed(x, text);
        due("\"" + text + "\"", x.text(), want);
    }

    private void feed() {
        sentence(28, "the n lowest bytes of a number behind it, the highest of these first (n 1 to 4)");
        due("one", x.feed('x' << 24 | 'x' << 16 | 'x' << 8 | 'k', 1), 1);
        due("two", x.feed('x' << 24 | 'x' << 16 | 'i' << 8 | 'n', 2), 3);
        due("three", x.feed('x' << 24 | ' ' << 16 | 'u' << 8 | 'p', 3), 6);
        due("four", x.feed(' ' << 24 | ';' << 16 | 'b' << 8 | 'a', 4), 10);
        due("two", x.feed('b' << 8 | 'y', 2), 12);
        due("two ITEMS", x.text(), 2);
        due("up", x.of(0, 5), 0);
        due("baby", x.of(1, 0), 4);
        due("of a number below 0", x.feed(-1 << 24 | 'k' << 16 | 'i' << 8 | 'n', 3), 3);
        due("one ITEM", x.text(), 1);
        due("a byte of 128 and 'k'", x.feed(128 + 'k', 1), 1);
        due("and the others of 'kin'", x.feed('i' << 8 | 'n', 2), 3);
        due("a byte that begins no TOKEN", x.text(), -1);
        due("bytes of 255", x.feed(-1, 4), 4);
        due("a byte that begins no TOKEN", x.text(), -1);
        due("a byte of 0", x.feed('k' << 24 | 'i' << 16 | 'n' << 8, 4), 4);
        due("a byte that begins no TOKEN", x.text(), -4);

        sentence(28, "how many it has");
        for (int i = 1; i <= 30; i++) due("four more", x.feed(0, 4), 4 * i);
    }

    private void feedRefused() {
        sentence(28, "BEYOND: n");
        refusesOutside(1, 4, "n", (on, v) -> on.feed('k', v));
        refuses(BEYOND, "n -1", on -> on.feed('k', -1));

        sentence(28, "FULL");
        refuses(FULL, "the 121st", () -> Lands.withTape(120), on -> on.feed('k', 1));
        refuses(FULL, "two at 119", () -> Lands.withTape(119), on -> on.feed('k', 2));
        refuses(FULL, "four at 117", () -> Lands.withTape(117), on -> on.feed('k', 4));
        due("one at 119", Lands.withTape(119).feed('k', 1), 120);
        due("four at 116", Lands.withTape(116).feed('k', 4), 120);
        due("three at 117", Lands.withTape(117).feed('k', 3), 120);
    }

    private void wipe() {
        sentence(29, "THE TAPE is empty: how many it had");
        due("none", x.wipe(), 0);
        x.feed('k', 1);
        due("one", x.wipe(), 1);
        due("none again", x.wipe(), 0);
        Lands.feed(x, "aunt".repeat(30));
        due("as many as can be", x.wipe(), 120);
        due("none is left", x.count(5), 0);
        readOn("kin", 1);
    }

    private void text() {
        sentence(30, "THE TAPE is a TEXT, and empty then");
        readOn("kin" + " ".repeat(117), 1);
        due("none of 120 bytes is left", x.count(5), 0);
        due("a TEXT that isn't there", x.text(), -1);
        due("one KIN", x.count(1), 1);

        sentence(30, "all that it tells is so, item by item");
        readOn("kin mark 3;aged 0 5;cousin of 0 up;aged 0 6", 4);
        due("the later AGE", x.of(0, 4), 6);
        due("MARK", x.of(0, 2), 3);
        due("PARENT", x.of(1, 1), 0);
        due("LAID", x.now(3), 1);

        sentence(30, "how many ITEMS");
        readOn("kin", 1);
        readOn("aged 0 1", 1);
        // As many as 120 bytes can have: eight new ones, and eleven AGES.
        read(EIGHT + ";aged0 7".repeat(11), 19);
        due("AGE", x.of(0, 4), 7);
    }

    private void textWithFault() {
        sentence(30, "With a FAULT: -1 less the FAULT");
        read("", -1);
        read("?", -1);
        read("kin;?", -5);
        read("kin" + " ".repeat(116) + "?", -120);
        read("kin" + " ".repeat(116) + ";", -121);

        sentence(30, "nothing changes but that THE TAPE is empty; no finding");
        for (String text : new String[] {"kin mark 9;aged 0 7;cousin of 0 up;aunt", "aged 4 8;aged 5 8", "kin;"}) {
            SkinLands land = Lands.five();
            land.wipe();
            Lands.feed(land, text);
            int findings = land.status(-1);
            held.checks().dueTrue("\"" + text + "\" has a FAULT", land.text() < 0);
            due("no finding", land.status(-1), findings);
            SkinLands same = Lands.five();
            same.wipe();
            held.checks().dueTrue("\"" + text + "\" changed nothing", Lands.told(land).equals(Lands.told(same)));
        }
    }

    private void tape() {
        terms("THE TAPE (bytes, at most 120)");
        readOn(" ".repeat(109) + "kin mark 12", 1);
        due("the last two of 120 bytes", x.of(0, 2), 12);
        Lands.feed(x, " ".repeat(120));
        due("the 121st", x.feed(' ', 1), FULL);
        due("120", x.count(5), 120);
    }

    private void tokens() {
        terms("TOKENS, each as long as can be");
        read("kinup", -1);
        read("kin;kinkin", -5);
        read("kin mark 12", 1);
        due("12, neither 1 nor 2", x.of(0, 2), 12);
        read("kin turn" + "0".repeat(111) + "3", 1);
        due("a NUMBER of 112 digits", x.of(0, 3), 3);

        terms("WORDS (letters a to z)");
        read("kina", -1);
        read("kinz", -1);
        read("kin`", -4);
        read("kin{", -4);
        read("Kin", -1);
        read("kiN", -1);
        read("kin uP", -5);

        terms("NUMBERS (digits, 99999 at most)");
        read("kin mark 0900", 1);
        due("0 and 9", x.of(0, 2), 900);
        read("kin mark 9/", -11);
        read("kin mark 9:", -11);
        read("kin mark /", -10);
        read("kin mark :", -10);
        read("kin mark 99999", -10);
        read("kin mark 100000", -10);
        read("kin mark 100005", -10);
        read("kin mark 2147483648", -10);
        read("kin mark 4294967301", -10);
        read("kin mark 18446744073709551621", -10);
        read("kin;aged 0 4294967301", -12);
        read("kin;aged 4294967296 1", -10);
        read("kin;kin of 4294967296", -12);
        read("kin turn 4294967296", -10);

        terms("blanks may stand between");
        read("kin mark12turn3up;kin", 2);
        due("MARK", x.of(0, 2), 12);
        due("TURN", x.of(0, 3), 3);
        due("LAID", x.of(0, 5), 0);
        read("   kin   mark   12   turn   3   up   ;   kin   ", 2);
        due("MARK", x.of(0, 2), 12);
        read("k in", -1);
        read("kin mark 1 2", -12);
        read("kin\tup", -4);
        read("kin\nup", -4);
        read("kin\u00a0up", -4);
        read("kin!", -4);
        read("kin\u001f", -4);
    }

    private void items() {
        terms("TEXT: ITEM { ; ITEM }");
        read("", -1);
        read("kin", 1);
        read("kin;kin", 2);
        read(";", -1);
        read(";kin", -1);
        read("kin;", -5);
        read("kin;;kin", -5);
        read("kin kin", -5);
        read("kin;aged 0 0 aged 0 0", -14);
        read("kin:kin", -4);
        read("kin<kin", -4);

        terms("ITEM: kin, cousin, uncle, child, baby, adopted or sailor");
        String[] words = {"kin", "cousin", "uncle", "child", "baby", "adopted", "sailor"};
        for (int kind = 0; kind < 7; kind++) {
            read(words[kind], 1);
            int[] first = {kind, -1, 0, 0, 0, 1};
            for (int what = 0; what < 6; what++) due(words[kind] + ", " + what, x.of(0, what), first[what]);
            read(words[kind] + "s", -1);
            read(words[kind].substring(1), -1);
            read(words[kind].substring(0, words[kind].length() - 1), -1);
            read("x" + words[kind].substring(1), -1);
        }
        read("kim", -1);

        terms("perhaps up (it isn't LAID)");
        read("kin;kin up", 2);
        due("LAID", x.now(3), 1);
        read("kin up up", -8);
        read("kin up mark 1", -8);
        read("up", -1);
        read("kin u", -5);
        read("kin ups", -5);
    }

    private void parents() {
        terms("perhaps of and a NUMBER (its PARENT, who is there already)");
        read("kin;kin of 0", 2);
        due("the first one", x.of(1, 1), 0);
        due("nobody", x.of(0, 1), -1);
        read("kin of 0", -8);
        read("kin;kin of 1", -12);
        read("kin;kin of 2", -12);
        read("kin;kin of 00", 2);
        read("kin of", -7);
        read("kin of of", -8);
        read("kin;kin of -1", -12);
        read("kin;kin o 0", -9);
        read("kin;kin of 0 of 0", -14);
        read("kin;kin mark 1 of 0", -16);
        read("kin;kin;kin;kin;kin;kin;kin;kin of 6", 8);
        due("the 7th", x.of(7, 1), 6);
        read("kin;kin;kin;kin;kin;kin;kin;kin of 7", -36);
    }

    private void numbers() {
        terms("perhaps mark and a NUMBER (0 to 65535)");
        read("kin mark 0", 1);
        due("the least", x.of(0, 2), 0);
        read("kin mark 65535", 1);
        due("the most", x.of(0, 2), ALL);
        read("kin mark 65536", -10);
        read("kin mark -1", -10);
        read("kin mark", -9);
        read("kin mark up", -10);
        read("kin mark 1 mark 1", -12);
        read("kin mar 1", -5);

        terms("perhaps turn and a NUMBER (0 to 3)");
        read("kin turn 0", 1);
        due("the least", x.of(0, 3), 0);
        read("kin turn 3", 1);
        due("the most", x.of(0, 3), 3);
        read("kin turn 4", -10);
        read("kin turn -1", -10);
        read("kin turn", -9);
        read("kin turn up", -10);
        read("kin turn 1 turn 1", -12);
        read("kin turn 1 mark 1", -12);
        read("kin turns 1", -5);
    }

    private void agedItems() {
        terms("aged, two NUMBERS (one who is there already, 0 to 999)");
        read("kin;aged 0 999", 2);
        due("the most", x.of(0, 4), 999);
        readOn("aged 0 0", 1);
        due("the least", x.of(0, 4), 0);
        readOn("aged 0 1000", -8);
        readOn("aged 1 1", -6);
        due("AGE", x.of(0, 4), 0);
        read("aged 0 1", -6);
        read("kin;aged 0 1 1", -14);
        read("kin;aged 0 -1", -12);
        read("kin;aged 0 up", -12);
        read("kin;aged of 0", -10);
        read("kin;aged 1 0;kin", -10);
        read("kin;age 0 1", -5);
        read(EIGHT + ";aged 7 1", 9);
        due("the last of eight", x.of(7, 4), 1);
        readOn("aged 8 1", -6);
    }

    private void faults() {
        terms("the place (from 0) of the first byte of the first TOKEN that can't stand there");
        read("of", -1);
        read("  of", -3);
        read("kin of of of", -8);
        read("7", -1);
        read("kin 7", -5);
        read("aunt?", -1);
        read("mark 70000", -1);

        terms("a NUMBER that isn't as told");
        read("kin mark   65536", -12);
        read("kin turn 44", -10);
        read("kin;aged 0 1000", -12);

        terms("another WORD");
        read("aunt", -1);
        read("kin aunt", -5);
        read("kin of kin", -8);
        read("kin;aunt", -5);
        read("kin;of", -5);

        terms("a byte that begins no TOKEN");
        read("#", -1);
        read("kin #", -5);
        read("kin mark #", -10);
        read("kin mark 1#", -11);
        read("kin;#", -5);
        read("kin\u00ff", -4);
        read("kin\u0000", -4);

        terms("the WORD of a 9th one: its own");
        read(EIGHT + ";kin", -33);
        due("nothing came", x.count(1), 0);
        read(EIGHT + ";  sailor of 99", -35);
        read(EIGHT + ";aunt", -33);
        read(EIGHT, 8);
        readOn("baby", -1);
        readOn("aged 0 1;baby", -10);
        readOn("aged 0 1", 1);
        read("kin", 1);
        readOn(EIGHT, -29);
    }

    private void endsTooEarly() {
        terms("or how many bytes there are if it ends too early");
        read("", -1);
        read("   ", -4);
        read("kin;", -5);
        read("kin;  ", -7);
        read("kin of", -7);
        read("kin of  ", -9);
        read("kin mark", -9);
        read("kin turn ", -10);
        read("aged", -5);
        read("kin;aged 0", -11);
        read("kin;aged 0 ", -12);
        read(" ".repeat(120), -121);
    }
}
