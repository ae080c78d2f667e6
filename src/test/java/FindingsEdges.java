/** What "Terms" says of findings. */
final class FindingsEdges extends Edges {
    FindingsEdges(Held held) {
        super(held);
    }

    @Override
    void run() {
        findings();
        noFindings();
        orderOfFindings();
        orderOfSheetFindings();
        leastOfSeveral();
    }

    private void findings() {
        terms("LOW is -1000001; LOW BEYOND, LOW - 1 FULL, LOW - 2 KIND, LOW - 3 NONE");
        due("BEYOND", x.who(16), -1000001);
        due("FULL", Lands.eight().kin(0, 0), -1000002);
        kin(0);
        x.hold(0, 0);
        due("KIND", x.as(0, 1), -1000003);
        due("NONE", x.undo(), -1000004);

        terms("LOW - 5 MISSING, LOW - 6 SIZE (in longs, too)");
        due("MISSING", x.load(0), -1000006);
        due("SIZE", x.sheet(0, 8, -1), -1000007);
        due("BEYOND in a long", x.odds(16, 0), -1000001L);
    }

    private void noFindings() {
        terms("What seed() and count(6) tell, z, may be any int: that is no finding");
        for (int z : new int[] {-1000001, -1000002, -1000007, Integer.MIN_VALUE, Integer.MAX_VALUE}) {
            x.seed(z);
            due("count(6)", x.count(6), z);
            due("seed", x.seed(z), z);
        }
        due("no finding", x.status(-1), 0);
    }

    private void orderOfFindings() {
        terms("Each act tells its findings in the order in which they are asked (that of its words)");
        SkinLands full = Lands.eight();
        due("kin: BEYOND, FULL", full.kin(7, 0), BEYOND);
        due("kin: BEYOND, FULL", full.kin(0, -1), BEYOND);
        due("birth: BEYOND, FULL", full.birth(7, 0, 1), BEYOND);
        due("birth: BEYOND, FULL", full.birth(0, 8, 0), BEYOND);
        due("birth: BEYOND, FULL", full.birth(0, 0, -1), BEYOND);
        due("birth: BEYOND, FULL", full.birth(0, 3, 3), BEYOND);
        due("when: BEYOND, NONE", x.when(16), BEYOND);
        due("many: BEYOND, NONE", x.many(17), BEYOND);
        due("match: BEYOND, NONE", x.match(0, 1, 1), BEYOND);
        due("hide: BEYOND, NONE", x.hide(16, 1), BEYOND);
        due("hide: BEYOND, NONE", x.hide(0, 17), BEYOND);
        due("shows: BEYOND, NONE", x.shows(0, 0), BEYOND);
        kin(0, 0);
        due("match: BEYOND, NONE", x.match(0, 1, 17), BEYOND);
        due("match: BEYOND, NONE", x.match(1, 1, 1), BEYOND);
        due("shows: BEYOND, NONE", x.shows(0, 16), BEYOND);
        due("feed: BEYOND, FULL", Lands.withTape(120).feed(0, 5), BEYOND);
        due("as: BEYOND, MISSING", x.as(10, 0), BEYOND);
        due("as: BEYOND, MISSING", x.as(0, 7), BEYOND);
        x.hold(0, 0);
        due("as: BEYOND, KIND", x.as(0, 7), BEYOND);
        due("as: MISSING, KIND", x.as(1, 2), MISSING);
    }

    private void orderOfSheetFindings() {
        terms("in the order in which they are asked (that of its words)");
        due("fits: no such sheet, MISSING", x.fits(4, 0), BEYOND);
        due("fits: MISSING, no such one", x.fits(0, 0), MISSING);
        due("kinds: no such sheet, MISSING", x.kinds(-1, 0), BEYOND);
        due("kinds: MISSING, no such one", x.kinds(0, -1), MISSING);
        due("spots: no such sheet, MISSING", x.spots(4, 0), BEYOND);
        due("spots: MISSING, no such one", x.spots(0, 8), MISSING);
        due("sheet: no such sheet, SIZE", x.sheet(4, 8, -1), BEYOND);
        due("sheet: other bits, SIZE", x.sheet(0, 7, -1), BEYOND);
        due("sheet: other bits, SIZE", x.sheet(0, -8, -1), BEYOND);
        due("write: no such sheet, MISSING", x.write(4, 0, 0), BEYOND);
        due("write: MISSING, no such number", x.write(0, 0, 0), MISSING);
        due("copy: no such sheet, MISSING", x.copy(0, 0, 4, 0, 0), BEYOND);
        due("copy: no such sheet, MISSING", x.copy(-1, 0, 0, 0, 0), BEYOND);
        x.sheet(1, 8, 3);
        due("copy: MISSING, KIND", x.copy(0, 0, 1, 0, 1), MISSING);
        due("copy: MISSING, KIND", x.copy(1, 0, 0, 0, 1), MISSING);
        due("copy: MISSING, so many", x.copy(1, 0, 0, 0, 9), MISSING);
        x.sheet(0, 16, 3);
        due("copy: KIND, so many", x.copy(0, 0, 1, 0, 9), KIND);
        due("copy: KIND, below 0", x.copy(1, -1, 0, 0, 1), KIND);
        due("load: no such sheet, MISSING", x.load(4), BEYOND);
        due("judge: no such sheet, MISSING", x.judge(4), BEYOND);
    }

    private void leastOfSeveral() {
        terms("of several that would do the least number counts, where nothing else is told");
        kin(0, 6, 5, 3);
        due("who SHOWS most", x.now(4), 1);
        x.change(2, 2, ALL);
        turned(1, 3);
        due("turnFor: all are KNOWN", x.turnFor(1, 0), 0);
        x.change(1, 0, 4);
        due("kindFor: all are KNOWN", x.kindFor(1, 0), 0);
        x.change(2, 2, set(0));
        x.change(3, 2, set(3));
        x.change(1, 2, set(0));
        x.change(1, 0, 0);
        due("turnFor: of 2 and 3", x.turnFor(1, 0), 2);
    }

    /** Runs behind all other tests, when all that is refused has been seen. */
    void nothingChanges() {
        terms("one that answers a finding changes nothing but status()");
        for (Held.Refusal refusal : held.refusals()) {
            SkinLands land = refusal.land().get();
            refusal.answer(land);
            boolean isAsItWas = Lands.told(land).equals(Lands.told(refusal.land().get()));
            held.checks().dueTrue(refusal.title() + ": nothing changes", isAsItWas);
        }
    }
}
