/** Promises 16 to 21. */
final class LieEdges extends Edges {
    LieEdges(Held held) {
        super(held);
    }

    @Override
    void run() {
        turnFor();
        kindFor();
        coverAllOrNobody();
        coverFewest();
        hide();
        hideRefused();
        marry();
        shows();
        showsRefused();
    }

    private void turnFor() {
        sentence(16, "behind n (0 to 40) YEARS");
        x.kin(0, ALL);
        x.kin(2, ALL - 1);
        // CELL 15 is lost in the 40th YEAR, with AGE 60; TURNED twice it comes to CELL 0, which the UNCLE SHOWS.
        x.change(0, 4, 21);
        due("behind the most", x.turnFor(0, 40), 2);
        due("behind one less", x.turnFor(0, 39), 0);
        due("nothing changes", x.of(0, 3) + x.of(0, 4) + x.count(0), 21);
        x.change(0, 2, 1);
        due("now", x.turnFor(0, 0), 1);

        sentence(16, "The TURN of one with which most CELLS are KNOWN");
        kin(set(0), set(0, 3, 15));
        due("the most TURN", x.turnFor(0, 0), 3);
        x.change(1, 2, set(3, 12, 15));
        x.change(0, 3, 3);
        due("the least TURN", x.turnFor(0, 0), 0);

        sentence(16, "BEYOND");
        refusesOutside(0, 4, "kin", (on, v) -> on.turnFor(v, 0));
        refuses(BEYOND, "kin of none", SkinLands::new, on -> on.turnFor(0, 0));
        refusesOutside(0, 40, "n", (on, v) -> on.turnFor(0, v));
    }

    private void kindFor() {
        sentence(17, "The KIND of which it must be for that");
        x.kin(0, ALL);
        // A KIN loses CELL 15 in the 40th YEAR, with AGE 60; an ADOPTED never does.
        x.change(0, 4, 21);
        due("behind the most", x.kindFor(0, 40), 5);
        due("behind one less", x.kindFor(0, 39), 0);
        due("nothing changes", x.of(0, 0) + x.of(0, 4) + x.count(0), 21);
        x.change(0, 2, 3);
        due("now", x.kindFor(0, 0), 2);

        sentence(17, "BEYOND");
        refusesOutside(0, 4, "kin", (on, v) -> on.kindFor(v, 0));
        refuses(BEYOND, "kin of none", SkinLands::new, on -> on.kindFor(0, 0));
        refusesOutside(0, 40, "n", (on, v) -> on.kindFor(0, v));
    }

    private void coverAllOrNobody() {
        sentence(18, "all that all KIN (LAID or not) SHOW together");
        due("nobody", x.cover(), 0);
        kin(0, 0);
        due("those who SHOW nothing", x.cover(), 0);
        kin(1);
        due("the one who SHOWS something", x.cover(), 4);
        x.change(2, 5, 0);
        due("LAID or not", x.cover(), 4);
        kin(0, 0, 0, 0, 0);
        for (int k = 0; k < 8; k++) x.change(k, 2, 1 << 2 * k);
        due("all eight", x.cover(), 255);
    }

    private void coverFewest() {
        sentence(18, "The set of fewest KIN");
        kin(1, 2, 3);
        due("one, though two are a lesser set", x.cover(), 4);

        sentence(18, "of several the least");
        kin(1, 1, 2, 2);
        due("the least of four", x.cover(), set(0, 2));
        x.change(0, 2, 0);
        due("the least of two", x.cover(), set(1, 2));
    }

    private void hide() {
        sentence(19, "a CELL isn't KNOWN");
        kin(set(0), set(15));
        due("the first CELL", x.hide(0, 1), set(1));
        due("the last CELL", x.hide(15, 1), set(0));

        sentence(19, "v (0 to 16) others or more");
        due("none, though there is nobody", x.hide(0, 0), 0);
        x.kin(2, 128);
        due("none", x.hide(7, 0), 0);
        due("15 others", x.hide(7, 15), 1);
        due("16 others", x.hide(7, 16), NONE);
        due("fewer than there are", x.hide(7, 2), 1);

        sentence(19, "The set of fewest KIN");
        kin(2, 4, 6);
        due("one, though two are a lesser set", x.hide(0, 2), 4);

        sentence(19, "of several the least");
        kin(2, 4, 8, 1);
        due("the least one", x.hide(0, 1), set(0));
        due("the least two", x.hide(0, 2), set(0, 1));
        due("the only three", x.hide(0, 3), set(0, 1, 2));
        kin(0, 0, 0, 0);
        for (int k = 0; k < 8; k++) x.change(k, 2, 2 << k);
        due("all eight", x.hide(0, 8), 255);

        sentence(19, "if just these are LAID now");
        kin(1, 2);
        x.change(1, 5, 0);
        due("one that isn't LAID", x.hide(0, 1), 2);
        due("nothing changes", x.now(3), 1);
    }

    private void hideRefused() {
        sentence(19, "BEYOND");
        refusesOutside(0, 15, "cell", (on, v) -> on.hide(v, 0));
        refusesOutside(0, 16, "v", (on, v) -> on.hide(0, v));

        sentence(19, "NONE");
        refuses(NONE, "nobody", SkinLands::new, on -> on.hide(0, 1));
        refuses(NONE, "16 others", on -> on.hide(0, 16));
        kin(1, 3);
        due("each SHOWS it", x.hide(0, 1), NONE);
        due("the other CELL", x.hide(1, 1), 1);
        due("one others too many", x.hide(1, 2), NONE);
    }

    private void marry() {
        sentence(20, "8 times the lesser number and the other one; the least pair");
        kin(0, 0);
        due("nothing in COMMON", x.marry(), 1);
        kin(0, 0, 0, 0, 0, 0);
        due("the least pair of eight", x.marry(), 1);
        x.change(6, 2, 1);
        x.change(7, 2, 1);
        due("the last pair", x.marry(), 55);
        x.change(0, 2, 1);
        due("the least pair of three", x.marry(), 6);
        x.change(1, 2, 3);
        x.change(2, 2, 3);
        due("most in COMMON", x.marry(), 8 + 2);
        for (int k = 0; k < 8; k++) x.change(k, 2, ALL);
        due("all in COMMON", x.marry(), 1);

        sentence(20, "NONE: fewer than two");
        refuses(NONE, "nobody", SkinLands::new, on -> on.marry());
        kin(1);
        due("one", x.marry(), NONE);
        kin(1);
        due("two", x.marry(), 1);
    }

    private void shows() {
        sentence(21, "Behind how many YEARS (0 to 200, the most)");
        x.kin(2, ALL - 1 - 32768);
        due("as long as is asked, the first CELL", x.shows(0, 0), 200);
        due("as long as is asked, the last CELL", x.shows(0, 15), 200);
        x.kin(0, ALL);
        x.change(1, 4, 60);
        due("it is gone behind one", x.shows(1, 15), 0);
        x.change(1, 4, 59);
        due("it is gone behind two", x.shows(1, 15), 1);
        x.change(1, 4, 0);
        due("till AGE 60 is gone by", x.shows(1, 15), 60);
        x.change(1, 5, 0);
        due("LAID or not", x.shows(1, 15), 60);
        due("nothing changes", x.of(1, 4) + x.count(0), 0);

        sentence(21, "as now and behind all YEARS till then");
        // CELL 15 of the CHILD is gone behind one YEAR, and comes again with the MARK of the SAILOR.
        x.kin(6, ALL >> 1);
        x.kin(3, ALL);
        x.change(1, 1, 0);
        x.change(1, 3, 1);
        x.change(1, 4, 40);
        x.go(1);
        x.change(0, 2, ALL >> 1);
        x.change(1, 2, ALL);
        due("gone behind one", x.ahead(1, 6, 1), ALL >> 1);
        due("there again behind four", x.ahead(1, 6, 4), ALL);
        due("the first time that it is gone counts", x.shows(1, 15), 0);
    }

    private void showsRefused() {
        sentence(21, "BEYOND");
        refusesOutside(0, 4, "kin", (on, v) -> on.shows(v, 5));
        refuses(BEYOND, "kin of none", SkinLands::new, on -> on.shows(0, 0));
        refusesOutside(0, 15, "cell", (on, v) -> on.shows(0, v));
        refuses(BEYOND, "32, which wraps around to 0", on -> on.shows(0, 32));

        sentence(21, "NONE: it doesn't SHOW it now");
        kin(1);
        due("not now, though behind one", x.shows(0, 1), NONE);
        due("the last CELL", x.shows(0, 15), NONE);
        due("now", x.shows(0, 0), 200);
    }
}
