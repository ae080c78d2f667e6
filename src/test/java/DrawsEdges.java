/** Promises 25 to 27, and what "Terms" says of the DRAWS. */
final class DrawsEdges extends Edges {
    DrawsEdges(Held held) {
        super(held);
    }

    @Override
    void run() {
        draws();
        moles();
        molesOfOne();
        molesYear();
        molesRefused();
        odds();
        oddsRefused();
        seed();
    }

    private static int drawn(int z) {
        return z * 1103515245 + 12345;
    }

    /** A z of which the next two draws tell one of KIN and a CELL, both as negative ints till they are shifted. */
    private static int seedFor(int kin, int cell) {
        for (int z = 0; ; z++) {
            int first = drawn(z);
            int second = drawn(first);
            boolean isNegative = first < 0 && second < 0;
            if (isNegative && (first >>> 8) % 8 == kin && (second >>> 8) % 16 == cell) return z;
        }
    }

    private static int drawnOften(int z, int times) {
        int last = z;
        for (int i = 0; i < times; i++) last = drawn(last);
        return last;
    }

    private void draws() {
        terms("DRAWS: z is told (1 at first)");
        due("z", x.count(6), 1);

        terms("each makes it z * 1103515245 + 12345 (an int), and gives z >>> 8");
        int[] seeds = {0, 1, -1, Integer.MAX_VALUE, Integer.MIN_VALUE, 1103515245};
        int[] drawnTwice = {-740551042, -1770082073, 288979989, -1858503659, 1406932606, 1415172915};
        for (int i = 0; i < 6; i++) {
            x.seed(seeds[i]);
            x.moles(1);
            due("z behind two draws from " + seeds[i], x.count(6), drawnTwice[i]);
        }
        // From these z on both draws are ints below 0, till they are shifted.
        x = new SkinLands();
        for (int k = 0; k < 8; k++) x.kin(2, 0);
        x.seed(26);
        x.moles(1);
        dueMark("from 26", 7, set(5));
        x.seed(22);
        x.moles(1);
        dueMark("from 22", 5, set(11));
        due("no other CELLS", x.now(5), 2);
    }

    private void moles() {
        sentence(25, "n times (1 to 20) two draws");
        due("the fewest, nobody", x.moles(1), 0);
        due("z behind two draws", x.count(6), drawnOften(1, 2));
        due("YEAR", x.count(0), 1);
        due("the most, nobody", x.moles(20), 0);
        due("z behind 42 draws", x.count(6), drawnOften(1, 42));
        due("YEAR", x.count(0), 21);
    }

    private void molesOfOne() {
        sentence(25, "comes to the MARK of the one of KIN of the first one's rest by 8, if there is one");
        x.kin(2, 128);
        x.seed(seedFor(0, 0));
        due("the first CELL of the first one", x.moles(1), ALL - set(0, 7));
        x.seed(seedFor(0, 15));
        due("the last CELL of the first one", x.moles(1), ALL - set(0, 7, 15));
        x.seed(seedFor(1, 3));
        due("there is no second one", x.moles(1), ALL - set(0, 7, 15));
        x.seed(seedFor(7, 3));
        due("there is no 8th", x.moles(1), ALL - set(0, 7, 15));
        due("a YEAR all the same", x.of(0, 4), 4);
        for (int k = 1; k < 8; k++) {
            x.kin(2, 0);
            x.change(k, 5, 0);
        }
        x.seed(seedFor(7, 15));
        x.moles(1);
        due("the last CELL of the 8th", x.of(7, 2), set(15));
        due("the others are as they were", x.of(6, 2), 0);

        sentence(25, "or is taken from it, if it is in it");
        x.kin(2, set(0, 15));
        x.seed(seedFor(0, 0));
        due("the first CELL", x.moles(1), ALL - set(15));
        x.seed(seedFor(0, 15));
        due("the last CELL", x.moles(1), ALL);
    }

    private void molesYear() {
        sentence(25, "then a YEAR: what is KNOWN then, as a set");
        kin(0);
        x.seed(seedFor(0, 5));
        due("what came grows", x.moles(1), set(1, 5));
        due("AGE", x.of(0, 4), 1);
        due("YEAR", x.count(0), 1);
        x.change(0, 5, 0);
        due("not LAID", x.moles(1), 0);
        due("YEAR", x.count(0), 2);
        x.moles(2);
        due("a YEAR each time", x.count(0), 4);
    }

    private void molesRefused() {
        sentence(25, "BEYOND");
        refusesOutside(1, 20, "n", (on, v) -> on.moles(v));
        refuses(BEYOND, "n -1", on -> on.moles(-1));
    }

    private void dueOdds(int known, int n, long above, long below) {
        x.change(0, 2, (1 << known) - 1);
        due(known + " KNOWN, n " + n + ", above", x.odds(n, 0), above);
        due(known + " KNOWN, n " + n + ", below", x.odds(n, 1), below);
    }

    private void odds() {
        sentence(26, "The odds that n (0 to 15) CELLS");
        due("no CELL, nobody", x.odds(0, 0), 1);
        due("no CELL, nobody, below", x.odds(0, 1), 1);
        kin(0);
        dueOdds(3, 0, 1, 1);
        dueOdds(3, 1, 3, 16);
        dueOdds(3, 15, 14348907, 1152921504606846976L);
        dueOdds(15, 14, 29192926025390625L, 72057594037927936L);
        dueOdds(15, 15, 437893890380859375L, 1152921504606846976L);

        sentence(26, "are all KNOWN now");
        due("nobody", x.odds(1, 0), 0);
        due("nobody, below", x.odds(1, 1), 1);
        kin(0);
        dueOdds(0, 1, 0, 1);
        dueOdds(0, 15, 0, 1);
        dueOdds(16, 1, 1, 1);
        dueOdds(16, 15, 1, 1);
        x.change(0, 5, 0);
        due("nobody is LAID", x.odds(1, 0), 0);

        sentence(26, "a fraction in lowest terms");
        kin(0);
        dueOdds(8, 1, 1, 2);
        dueOdds(8, 15, 1, 32768);
        dueOdds(4, 15, 1, 1073741824);
        dueOdds(12, 15, 14348907, 1073741824);
        dueOdds(2, 15, 1, 35184372088832L);
        dueOdds(14, 15, 4747561509943L, 35184372088832L);
        dueOdds(10, 2, 25, 64);
        dueOdds(6, 2, 9, 64);
        dueOdds(1, 15, 1, 1152921504606846976L);
    }

    private void oddsRefused() {
        sentence(26, "BEYOND");
        refusesOutside(0, 15, "n", (on, v) -> on.odds(v, 0));
        refusesOutside(0, 1, "what", (on, v) -> on.odds(1, v));
    }

    private void seed() {
        sentence(27, "z becomes v: what it was");
        due("at first", x.seed(Integer.MIN_VALUE), 1);
        due("the least", x.seed(Integer.MAX_VALUE), Integer.MIN_VALUE);
        due("the most", x.seed(0), Integer.MAX_VALUE);
        due("0", x.seed(-1), 0);
        due("-1", x.seed(-1), -1);
        due("the same", x.count(6), -1);
    }
}
