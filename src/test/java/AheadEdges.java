/** Promises 11 to 15. */
final class AheadEdges extends Edges {
    AheadEdges(Held held) {
        super(held);
    }

    @Override
    void run() {
        ahead();
        aheadRefused();
        known();
        when();
        whenRefused();
        many();
        manyRefused();
        match();
        matchRefused();
    }

    /**
     * What comes as late as can be: a CHILD of AGE 40, TURNED once, whose own MARK loses CELL 15, so that it doesn't
     * SHOW CELL 15, till the MARK of its PARENT has it; that is a SAILOR, whose first CELL comes behind four YEARS.
     */
    private void beginLate(int promise, String words) {
        sentence(promise, words);
        x.go(1);
        x.kin(6, 0);
        x.change(0, 5, 0);
        x.kin(3, 0);
        x.change(1, 1, 0);
        x.change(1, 3, 1);
        x.change(1, 4, 40);
    }

    private void ahead() {
        sentence(11, "behind n (0 to 100) YEARS");
        x.kin(0, 1);
        due("MARK now", x.ahead(0, 2, 0), 1);
        due("AGE now", x.ahead(0, 4, 0), 0);
        due("what it SHOWS now", x.ahead(0, 6, 0), 1);
        due("AGE behind the most", x.ahead(0, 4, 100), 100);
        due("AGE behind one less", x.ahead(0, 4, 99), 99);
        due("MARK behind the most", x.ahead(0, 2, 100), ALL >> 1);
        due("nothing changes", x.of(0, 4) + x.count(0), 0);
        x.change(0, 4, 900);
        due("AGE 999", x.ahead(0, 4, 99), 999);
        due("AGE 999 at most", x.ahead(0, 4, 100), 999);

        sentence(11, "What 2, 4, 6 (as in of())");
        x.kin(1, 3);
        x.change(0, 4, 7);
        x.change(0, 3, 2);
        due("MARK", x.ahead(0, 2, 0), 3);
        due("AGE", x.ahead(0, 4, 0), 7);
        due("what it SHOWS", x.ahead(0, 6, 0), set(12, 13));
    }

    private void aheadRefused() {
        sentence(11, "BEYOND");
        refusesOutside(0, 4, "kin", (on, v) -> on.ahead(v, 2, 0));
        refuses(BEYOND, "kin of none", SkinLands::new, on -> on.ahead(0, 2, 0));
        refusesOutside(2, 6, "what", (on, v) -> on.ahead(0, v, 0));
        for (int what : new int[] {-1, 0, 3, 5, 8, 9}) {
            refuses(BEYOND, "another what, " + what, on -> on.ahead(0, what, 0));
        }
        refusesOutside(0, 100, "n", (on, v) -> on.ahead(0, 2, v));
    }

    private void known() {
        sentence(12, "behind n (0 to 100) YEARS");
        due("nobody", x.known(100), 0);
        kin(1);
        due("now", x.known(0), 1);
        due("behind one", x.known(1), 3);
        due("behind the most", x.known(100), ALL >> 1);
        due("nothing changes", x.of(0, 4) + x.count(0), 0);
        x.change(0, 5, 0);
        due("not LAID", x.known(100), 0);

        sentence(12, "BEYOND");
        refusesOutside(0, 100, "n", (on, v) -> on.known(v));
    }

    private void when() {
        sentence(13, "Behind how many YEARS (0 to 200, the fewest) a CELL is KNOWN");
        kin(set(0, 15));
        due("now, the first CELL", x.when(0), 0);
        due("now, the last CELL", x.when(15), 0);
        due("the fewest, though it stays KNOWN", x.when(1), 1);
        x.change(0, 4, 60);
        due("now, though it is gone behind one", x.when(15), 0);
        beginLate(13, "(0 to 200, the fewest) a CELL is KNOWN");
        due("late", x.when(15), 64);
        due("nothing changes", x.count(0), 1);
        x.change(1, 2, ALL);
        due("now, gone, and there again", x.when(15), 0);
    }

    private void whenRefused() {
        sentence(13, "BEYOND");
        refusesOutside(0, 15, "cell", (on, v) -> on.when(v));
        refuses(BEYOND, "32, which wraps around to 0", on -> on.when(32));

        sentence(13, "NONE");
        refuses(NONE, "nobody", SkinLands::new, on -> on.when(0));
        x.kin(2, set(0, 15));
        due("never, the first CELL", x.when(0), NONE);
        due("never, the last CELL", x.when(15), NONE);
        due("another one", x.when(1), 0);
        x.change(0, 5, 0);
        due("nobody is LAID", x.when(1), NONE);
    }

    private void many() {
        sentence(14, "v (0 to 16) CELLS or more");
        due("none, though there is nobody", x.many(0), 0);
        kin(1);
        due("none", x.many(0), 0);
        due("as many as there are", x.many(1), 0);
        due("one more", x.many(2), 1);
        due("all", x.many(16), 15);
        x.change(0, 2, 7);
        due("fewer than there are", x.many(2), 0);

        sentence(14, "Behind how many YEARS (0 to 200, the fewest)");
        x.kin(0, ALL);
        x.change(0, 4, 60);
        due("now, though one is gone behind one", x.many(16), 0);
        beginLate(14, "(0 to 200, the fewest)");
        due("late", x.many(16), 64);
        due("nothing changes", x.count(0), 1);
    }

    private void manyRefused() {
        sentence(14, "BEYOND");
        refusesOutside(0, 16, "v", (on, v) -> on.many(v));

        sentence(14, "NONE");
        refuses(NONE, "nobody", SkinLands::new, on -> on.many(1));
        x.kin(2, 1);
        due("15 are", x.many(15), 0);
        due("never 16", x.many(16), NONE);
        x.change(0, 5, 0);
        due("nobody is LAID", x.many(1), NONE);
    }

    private void match() {
        sentence(15, "v (0 to 16) CELLS or more in COMMON");
        kin(set(0), set(2));
        x.change(1, 5, 0);
        due("none", x.match(0, 1, 0), 0);
        // The one has 0, 1, then 0, 1, 2; the other one has 1, 2, then 0, 1, 2.
        due("one", x.match(0, 1, 1), 1);
        due("two, and three at once", x.match(0, 1, 2), 2);
        due("three", x.match(0, 1, 3), 2);
        due("all", x.match(0, 1, 16), 15);

        sentence(15, "Behind how many YEARS (0 to 200, the fewest)");
        kin(ALL, ALL);
        x.change(0, 4, 60);
        due("now, though one is gone behind one", x.match(0, 1, 16), 0);
        beginLate(15, "(0 to 200, the fewest)");
        x.kin(2, 0);
        due("late", x.match(1, 2, 16), 64);
        due("late, the other way", x.match(2, 1, 16), 64);
        due("nothing changes", x.count(0), 1);
    }

    private void matchRefused() {
        sentence(15, "BEYOND");
        refusesOutside(0, 4, "a", (on, v) -> on.match(v, 1, 0));
        refusesOutside(0, 4, "b", (on, v) -> on.match(1, v, 0));
        refusesOutside(0, 16, "v", (on, v) -> on.match(0, 1, v));
        refuses(BEYOND, "of none", SkinLands::new, on -> on.match(0, 1, 0));

        sentence(15, "also one and the same");
        refuses(BEYOND, "the first one", on -> on.match(0, 0, 0));
        refuses(BEYOND, "the last one", on -> on.match(4, 4, 0));

        sentence(15, "NONE");
        x.kin(2, 1);
        x.kin(2, 6);
        due("13 in COMMON", x.match(0, 1, 13), 0);
        due("never 14", x.match(0, 1, 14), NONE);
        due("never 16", x.match(1, 0, 16), NONE);
    }
}
