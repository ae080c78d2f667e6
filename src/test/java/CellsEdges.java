/** What "Terms" says of CELLS, and of what is KNOWN of them. */
final class CellsEdges extends Edges {
    CellsEdges(Held held) {
        super(held);
    }

    @Override
    void run() {
        cells();
        turns();
        beside();
        knownAndCommon();
    }

    private void cells() {
        terms("CELLS 0 to 15, in four rows of four");
        kin(ALL);
        for (int cell = 0; cell <= 15; cell++) due("CELL " + cell, x.who(cell), 1);
        due("CELL -1", x.who(-1), BEYOND);
        due("CELL 16", x.who(16), BEYOND);

        terms("a set of them is 0 to 65535");
        due("the empty set", x.turned(0, 0, 0), 0);
        due("the full set", x.turned(65535, 0, 0), 65535);
        due("-1", x.turned(-1, 0, 0), BEYOND);
        due("65536", x.turned(65536, 0, 0), BEYOND);
    }

    private void turns() {
        terms("TO TURN a set once: what is in row r and column c comes to row c and column 3 - r");
        for (int cell = 0; cell <= 15; cell++) {
            int row = cell / 4;
            int column = cell % 4;
            due("CELL " + cell, x.turned(1 << cell, 1, 0), 1 << 4 * column + 3 - row);
        }

        terms("TO MIRROR it: to row r and column 3 - c");
        for (int cell = 0; cell <= 15; cell++) {
            int row = cell / 4;
            int column = cell % 4;
            due("CELL " + cell, x.turned(1 << cell, 0, 1), 1 << 4 * row + 3 - column);
        }
    }

    private void beside() {
        terms("BESIDE one another: CELLS of one row in next columns, of one column in next rows");
        // The least BESIDE each CELL: the one above it, in row 0 the one to its left.
        int[] least = {1, 0, 1, 2, 0, 1, 2, 3, 4, 5, 6, 7, 8, 9, 10, 11};
        for (int cell = 0; cell <= 15; cell++) {
            x = new SkinLands();
            kin(1 << cell);
            x.go(1);
            dueMark("BESIDE " + cell, 0, set(cell, least[cell]));
        }
        x = new SkinLands();
        int[] marks = {set(0, 1, 2), set(0, 1, 2, 3), ALL >> 4, ALL >> 1, ALL - 1, ALL - set(5), set(0, 1, 2, 3, 4)};
        int[] next = {3, 4, 12, 15, 0, 5, 5};
        for (int k = 0; k < 7; k++) kin(marks[k]);
        x.go(1);
        for (int k = 0; k < 7; k++) dueMark("BESIDE those of " + marks[k], k, marks[k] | 1 << next[k]);
    }

    private void knownAndCommon() {
        terms("KNOWN: CELLS that KIN who are LAID SHOW together");
        due("nobody", x.now(1), 0);
        kin(1, 2, 32768);
        due("three", x.now(1), 32771);
        for (int k = 0; k < 3; k++) x.change(k, 5, 0);
        due("none is LAID", x.now(1), 0);

        terms("COMMON of two: CELLS that both SHOW");
        kin(3, 12, 6);
        due("none", x.common(0, 1), 0);
        due("one", x.common(0, 2), 2);
        x.change(0, 5, 0);
        due("LAID or not", x.common(0, 2), 2);
    }
}
