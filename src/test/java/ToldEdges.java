/** Promises 22 to 24. */
final class ToldEdges extends Edges {
    private static final int LAST = 39;

    ToldEdges(Held held) {
        super(held);
    }

    @Override
    void run() {
        fitsNowAndFurtherOn();
        fitsAny();
        kinds();
        kindsRefused();
        spots();
        spotsRefused();
    }

    /** The longest sheet, which lets go all but one number of it. */
    private void tellOne(int i, int told) {
        x.sheet(0, 32, 40);
        for (int at = 0; at < 40; at++) x.write(0, at, -1);
        x.write(0, i, told);
    }

    private void tell(int bits, int... numbers) {
        Lands.sheet(x, 0, bits, numbers);
    }

    private void fitsNowAndFurtherOn() {
        sentence(22, "what is KNOWN now and behind each YEAR further on is as a sheet tells");
        kin(1);
        tell(32, 1);
        due("not TURNED", x.fits(0, 0), set(0));
        tell(32, 4096);
        due("the most TURN", x.fits(0, 0), set(3));
        tell(32, 2);
        due("none", x.fits(0, 0), 0);
        tell(32, 1, 3);
        due("and behind one", x.fits(0, 0), set(0));
        tell(32, 1, 2);
        due("not behind one", x.fits(0, 0), 0);
        tell(32);
        due("a sheet without numbers: each", x.fits(0, 0), 15);
        // CELL 15 is lost in the 39th YEAR, with AGE 60; TURNED twice it comes to CELL 0.
        x.change(0, 2, ALL);
        x.change(0, 4, 22);
        tellOne(LAST, ALL - 1);
        due("the last number of 40", x.fits(0, 0), set(2));
        tellOne(LAST - 1, ALL);
        due("the one ahead of it", x.fits(0, 0), 15);
        due("nothing changes", x.of(0, 3) + x.of(0, 4) + x.count(0), 22);

        sentence(22, "BEYOND: no such sheet");
        refusesOutside(0, 3, "s", SkinLands::new, (on, v) -> on.fits(v, 0));
        refusesOutside(0, 3, "s", (on, v) -> on.fits(v, 0));

        sentence(22, "MISSING");
        refuses(MISSING, "sheet 3", on -> on.fits(3, 0));
        due("at first", x.fits(0, 0), MISSING);

        sentence(22, "BEYOND: no such one");
        refusesOutside(0, 4, "kin", (on, v) -> on.fits(0, v));
        tell(32);
        due("there is nobody", x.fits(0, 0), BEYOND);
    }

    private void fitsAny() {
        sentence(22, "-1: any");
        kin(1);
        tell(32, -1);
        due("-1 of 32 bits", x.fits(0, 0), 15);
        tell(16, 65535);
        due("-1 of 16 bits", x.fits(0, 0), 15);
        tell(8, 255);
        due("-1 of 8 bits", x.fits(0, 0), 15);
        tell(32, -2);
        due("-2", x.fits(0, 0), 0);
        tell(32, 65535);
        due("65535 of 32 bits: all CELLS", x.fits(0, 0), 0);
        tell(32, 0);
        due("0: none", x.fits(0, 0), 0);
        tell(32, -1, 3);
        due("behind an any", x.fits(0, 0), set(0));
        tell(32, 65537);
        due("65537, which is no set", x.fits(0, 0), 0);
    }

    private void kinds() {
        sentence(23, "KINDS that it could be of, as a set, likewise");
        kin(1);
        tell(32, 1);
        due("the least KIND", x.kinds(0, 0), set(0));
        tell(32, ALL - 15);
        due("the most KIND", x.kinds(0, 0), set(6));
        tell(32, 2);
        due("none", x.kinds(0, 0), 0);
        tell(32, -1);
        due("each", x.kinds(0, 0), 127);
        tell(32);
        due("a sheet without numbers: each", x.kinds(0, 0), 127);
        // A KIN loses CELL 15 in the 39th YEAR, with AGE 60; an ADOPTED never does.
        x.change(0, 2, ALL);
        x.change(0, 4, 22);
        tellOne(LAST, ALL);
        due("the last number of 40", x.kinds(0, 0), set(5));
        tellOne(LAST - 1, ALL);
        due("the one ahead of it", x.kinds(0, 0), set(0, 5));
        due("nothing changes", x.of(0, 0) + x.of(0, 4) + x.count(0), 22);
    }

    private void kindsRefused() {
        sentence(23, "BEYOND: no such sheet");
        refusesOutside(0, 3, "s", SkinLands::new, (on, v) -> on.kinds(v, 0));
        refusesOutside(0, 3, "s", (on, v) -> on.kinds(v, 0));

        sentence(23, "MISSING");
        refuses(MISSING, "sheet 3", on -> on.kinds(3, 0));
        due("at first", x.kinds(0, 0), MISSING);

        sentence(23, "BEYOND: no such one");
        refusesOutside(0, 4, "kin", (on, v) -> on.kinds(0, v));
        tell(32);
        due("there is nobody", x.kinds(0, 0), BEYOND);
    }

    private void spots() {
        sentence(24, "each of which alone, if it comes to the MARK of one now (or is taken from it, if it is in it)");
        kin(0);
        tell(32, 1);
        due("the first CELL comes", x.spots(0, 0), set(0));
        tell(32, 32768);
        due("the last CELL comes", x.spots(0, 0), set(15));
        tell(32, 3);
        due("two would have to come", x.spots(0, 0), 0);
        tell(32, 0);
        due("any would be too much", x.spots(0, 0), 0);
        x.change(0, 2, 1);
        due("the first CELL is taken", x.spots(0, 0), set(0));
        x.change(0, 2, 32768);
        due("the last CELL is taken", x.spots(0, 0), set(15));
        tell(32, -1);
        due("each", x.spots(0, 0), ALL);
        tell(32);
        due("a sheet without numbers: each", x.spots(0, 0), ALL);
        x.change(0, 0, 2);
        x.change(0, 2, set(5, 9));
        tellOne(LAST, ALL - set(5));
        due("the last number of 40", x.spots(0, 0), set(9));
        tellOne(0, ALL - set(5, 9, 15));
        due("the first number of 40", x.spots(0, 0), set(15));
        due("nothing changes", x.of(0, 2), set(5, 9));
    }

    private void spotsRefused() {
        sentence(24, "BEYOND: no such sheet");
        refusesOutside(0, 3, "s", SkinLands::new, (on, v) -> on.spots(v, 0));
        refusesOutside(0, 3, "s", (on, v) -> on.spots(v, 0));

        sentence(24, "MISSING");
        refuses(MISSING, "sheet 3", on -> on.spots(3, 0));
        due("at first", x.spots(0, 0), MISSING);

        sentence(24, "BEYOND: no such one");
        refusesOutside(0, 4, "kin", (on, v) -> on.spots(0, v));
        tell(32);
        due("there is nobody", x.spots(0, 0), BEYOND);
    }
}
