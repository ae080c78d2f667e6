/** Promises 38 to 42. */
final class ImagesEdges extends Edges {
    ImagesEdges(Held held) {
        super(held);
    }

    @Override
    void run() {
        image();
        undo();
        tear();
        count();
        countRefused();
        status();
        statusRefused();
    }

    private void image() {
        sentence(38, "All but THE TAPE and SHEETS is kept: 1");
        x.feed('k', 1);
        x.sheet(1, 8, 3);
        due("there is no KIN yet", x.image(), 1);
        due("THE TAPE stays", x.count(5), 1);
        due("SHEETS stay", x.load(1), 0);
        kin(1);
        x.go(1);
        x.hold(0, 0);
        x.seed(5);
        Lands.sheet(x, 0, 8, 3);
        x.feed('i' << 8 | 'n', 2);
        due("undo", x.undo(), 0);
        due("no KIN", x.count(1), 0);
        due("SPOTS", x.count(7), 0);
        due("z", x.count(6), 1);
        due("SHEETS stay", x.judge(0), 1);
        due("THE TAPE stays", x.text(), 1);
        x = Lands.eight();
        x.image();
        x.hold(1, 7);
        for (int k = 0; k < 8; k++) {
            x.change(k, 0, 6);
            x.change(k, 1, (k + 3) % 8);
            x.change(k, 2, 1 << k);
            x.change(k, 3, 2);
            x.change(k, 4, 900);
            x.change(k, 5, 0);
        }
        x.undo();
        SkinLands same = Lands.eight();
        same.image();
        held.checks().dueTrue("all eight are as they were", Lands.told(x).equals(Lands.told(same)));
    }

    private void undo() {
        sentence(39, "It becomes what was kept latest (which stays): YEAR");
        x.image();
        due("YEAR 0", x.undo(), 0);
        x.go(60);
        x.image();
        x.go(5);
        due("the latest", x.undo(), 60);
        x.go(7);
        due("which stays", x.undo(), 60);
        due("which stays", x.undo(), 60);
        due("YEAR", x.count(0), 60);

        sentence(39, "NONE: nothing is kept");
        refuses(NONE, "at first", SkinLands::new, on -> on.undo());
        refuses(NONE, "behind tear()", Lands::torn, on -> on.undo());
        x.image();
        x.undo();
        x.tear();
        x.image();
        due("kept again", x.undo(), 0);
    }

    private void tear() {
        sentence(40, "Nothing is kept: 1 if something was, else 0");
        due("nothing was", x.tear(), 0);
        x.image();
        x.image();
        x.undo();
        due("something was", x.tear(), 1);
        due("nothing is left", x.tear(), 0);
        due("nothing is kept", x.undo(), NONE);
    }

    private void count() {
        sentence(41, "1 KIN, 2 how many CELLS are KNOWN, 3 how many are LAID, 4 AGES together");
        for (int what = 1; what <= 4; what++) due("nobody, " + what, x.count(what), 0);
        for (int k = 0; k < 8; k++) {
            x.kin(0, ALL);
            x.change(k, 4, 999);
        }
        int[] most = {0, 8, 16, 8, 7992};
        for (int what = 1; what <= 4; what++) due("all of eight, " + what, x.count(what), most[what]);
        for (int k = 0; k < 8; k++) x.change(k, 5, 0);
        int[] up = {0, 8, 0, 0, 7992};
        for (int what = 1; what <= 4; what++) due("none of eight is LAID, " + what, x.count(what), up[what]);

        sentence(41, "0 YEAR");
        due("at first", x.count(0), 0);
        x.go(60);
        due("behind 60", x.count(0), 60);

        sentence(41, "5 bytes of THE TAPE, 6 z, 7 SPOTS that hold something");
        due("an empty TAPE", x.count(5), 0);
        due("a full TAPE", Lands.withTape(120).count(5), 120);
        due("z at first", x.count(6), 1);
        x.seed(Integer.MIN_VALUE);
        due("the least z", x.count(6), Integer.MIN_VALUE);
        due("no SPOT", x.count(7), 0);
        kin(0);
        for (int spot = 0; spot < 10; spot++) x.hold(spot, 0);
        due("all SPOTS", x.count(7), 10);
        x.hold(9, -1);
        due("all but one", x.count(7), 9);
    }

    private void countRefused() {
        sentence(41, "BEYOND: another what");
        refusesOutside(0, 7, "what", (on, v) -> on.count(v));
    }

    private void status() {
        sentence(42, "How many acts answered a finding ever (undo() takes none back)");
        due("none", x.status(-1), 0);
        x.image();
        x.who(16);
        x.undo();
        due("one", x.status(-1), 1);
        due("one is BEYOND", x.status(0), 1);
        x.tear();
        x.undo();
        due("two", x.status(-1), 2);
        due("one is NONE", x.status(3), 1);

        sentence(42, "which -1: all, 0 to 6: BEYOND to SIZE");
        due("all", x.status(-1), 0);
        for (int which = 0; which <= 6; which++) due("status(" + which + ")", x.status(which), 0);
        x.who(16);
        x.sheet(0, 8, -1);
        x.sheet(0, 8, -1);
        due("the least", x.status(0), 1);
        due("the most", x.status(6), 2);
        due("all", x.status(-1), 3);
        for (int i = 0; i < 400; i++) x.who(16);
        due("many", x.status(0), 401);
        due("all", x.status(-1), 403);
    }

    private void statusRefused() {
        sentence(42, "BEYOND (counted from then on): another one");
        refusesOutside(-1, 6, "which", (on, v) -> on.status(v));
        due("7", x.status(7), BEYOND);
        due("is counted", x.status(-1), 1);
        due("as BEYOND", x.status(0), 1);
        due("-2", x.status(-2), BEYOND);
        due("is counted, too", x.status(-1), 2);
        due("as BEYOND, too", x.status(0), 2);
    }

    /** Runs behind all other tests, when all that is refused has been seen. */
    void eachFindingIsCounted() {
        sentence(42, "How many acts answered a finding ever");
        for (Held.Refusal refusal : held.refusals()) {
            SkinLands land = refusal.land().get();
            int[] due = new int[7];
            for (int which = 0; which < 7; which++) due[which] = land.status(which);
            int all = land.status(-1);
            refusal.answer(land);
            due[BEYOND - refusal.finding()]++;
            for (int which = 0; which < 7; which++) {
                due(refusal.title() + ": status(" + which + ")", land.status(which), due[which]);
            }
            due(refusal.title() + ": status(-1)", land.status(-1), all + 1);
        }
    }
}
