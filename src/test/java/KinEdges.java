/** Promises 1 to 8. */
final class KinEdges extends Edges {
    KinEdges(Held held) {
        super(held);
    }

    @Override
    void run() {
        newObject();
        newOne();
        newOneRefused();
        told();
        toldRefused();
        changed();
        changedRefused();
        birth();
        birthRefused();
        who();
        common();
        turnedSets();
    }

    private void newObject() {
        SkinLands other = Lands.eight();
        sentence(1, "All as at first");
        due("no finding", x.status(-1), 0);
        due("YEAR", x.count(0), 0);
        due("z", x.count(6), 1);
        due("SPOTS that hold something", x.count(7), 0);
        for (int s = 0; s < 4; s++) due("sheet " + s, x.load(s), MISSING);
        for (int spot = 0; spot < 10; spot++) due("SPOT " + spot, x.as(spot, 0), MISSING);
        due("the other object is as it was", other.count(1), 8);

        sentence(1, "no KIN");
        due("count(1)", x.count(1), 0);
        due("of(0, 0)", x.of(0, 0), BEYOND);
        due("now(3)", x.now(3), 0);

        sentence(1, "THE TAPE is empty");
        due("count(5)", x.count(5), 0);
        due("wipe", x.wipe(), 0);

        sentence(1, "no image is kept");
        due("undo", x.undo(), NONE);
        due("tear", x.tear(), 0);
    }

    private void newOne() {
        sentence(2, "A new one with a MARK: the number");
        due("least KIND, empty MARK", x.kin(0, 0), 0);
        due("most KIND, full MARK", x.kin(6, ALL), 1);
        due("its KIND", x.of(0, 0), 0);
        due("its MARK", x.of(0, 2), 0);
        due("its KIND", x.of(1, 0), 6);
        due("its MARK", x.of(1, 2), ALL);
        for (int k = 2; k < 7; k++) due("one more", x.kin(k - 1, 1 << k), k);
        due("the 8th", x.kin(3, 1), 7);
        due("its KIND", x.of(7, 0), 3);
    }

    private void newOneRefused() {
        sentence(2, "BEYOND");
        refusesOutside(0, 6, "kind", (on, v) -> on.kin(v, 0));
        refusesOutside(0, ALL, "mark", (on, v) -> on.kin(0, v));

        sentence(2, "FULL");
        refuses(FULL, "a 9th", Lands::eight, on -> on.kin(0, 0));
        for (int k = 0; k < 7; k++) x.kin(0, 0);
        x.image();
        due("the 8th isn't refused", x.kin(0, 0), 7);
        due("the 9th is", x.kin(0, 0), FULL);
        due("the 9th is again", x.kin(6, ALL), FULL);
        x.undo();
        due("the 8th once more", x.kin(0, 0), 7);
    }

    private void told() {
        sentence(3, "1 PARENT (-1: nobody)");
        kin(0, 0);
        due("at first", x.of(0, 1), -1);
        x.change(0, 1, 1);
        due("another one", x.of(0, 1), 1);
        x.change(1, 1, 0);
        due("the least one", x.of(1, 1), 0);
        x.change(0, 1, -1);
        due("nobody again", x.of(0, 1), -1);
        due("that is no finding", x.status(-1), 0);

        sentence(3, "5 LAID (1, 0)");
        kin(0);
        due("at first", x.of(0, 5), 1);
        x.change(0, 5, 0);
        due("up", x.of(0, 5), 0);

        sentence(3, "what 0 KIND");
        x.kin(6, 0);
        due("the least what", x.of(0, 0), 6);

        sentence(3, "8 FADES");
        x.kin(1, 0);
        due("the most what", x.of(0, 8), 40);
    }

    private void toldRefused() {
        sentence(3, "BEYOND");
        refusesOutside(0, 4, "kin", (on, v) -> on.of(v, 0));
        refusesOutside(0, 7, "kin of eight", Lands::eight, (on, v) -> on.of(v, 2));
        refuses(BEYOND, "kin of none", SkinLands::new, on -> on.of(0, 0));
        refusesOutside(0, 8, "what", (on, v) -> on.of(0, v));
    }

    /** What one of two becomes: its least and its most are taken, and what it was is told. */
    private void takes(int what, int first, int least, int most) {
        kin(0, 0);
        if (what == 2) x.change(1, 2, first);
        due("to the most", x.change(1, what, most), first);
        due("is the most", x.of(1, what), most);
        due("to the same", x.change(1, what, most), most);
        due("to the least", x.change(1, what, least), most);
        due("is the least", x.of(1, what), least);
        due("the other one is as it was", x.of(0, what), what == 1 ? -1 : what == 5 ? 1 : 0);
        due("no finding", x.status(-1), 0);
    }

    private void changed() {
        sentence(4, "KIND (what 0)");
        takes(0, 0, 0, 6);
        refusesOutside(0, 6, "KIND", (on, v) -> on.change(0, 0, v));

        sentence(4, "PARENT (1; -1, too");
        takes(1, -1, -1, 0);
        x.change(0, 1, 1);
        due("the last one", x.of(0, 1), 1);
        refusesOutside(-1, 4, "PARENT", (on, v) -> on.change(0, 1, v));
        refusesOutside(-1, 7, "PARENT of eight", Lands::eight, (on, v) -> on.change(0, 1, v));

        sentence(4, "not itself");
        refuses(BEYOND, "the first one", on -> on.change(0, 1, 0));
        refuses(BEYOND, "the last one", on -> on.change(4, 1, 4));
        kin(0, 0);
        due("one", x.change(0, 1, 1), -1);
        due("of one another", x.change(1, 1, 0), -1);

        sentence(4, "MARK (2)");
        takes(2, 9, 0, ALL);
        refusesOutside(0, ALL, "MARK", (on, v) -> on.change(0, 2, v));

        sentence(4, "TURN (3)");
        takes(3, 0, 0, 3);
        refusesOutside(0, 3, "TURN", (on, v) -> on.change(0, 3, v));

        sentence(4, "AGE (4)");
        takes(4, 0, 0, 999);
        refusesOutside(0, 999, "AGE", (on, v) -> on.change(0, 4, v));

        sentence(4, "LAID (5)");
        takes(5, 1, 0, 1);
        refusesOutside(0, 1, "LAID", (on, v) -> on.change(0, 5, v));
    }

    private void changedRefused() {
        sentence(4, "BEYOND");
        refusesOutside(0, 4, "kin", (on, v) -> on.change(v, 2, 0));
        refuses(BEYOND, "kin of none", SkinLands::new, on -> on.change(0, 2, 0));
        refusesOutside(0, 5, "what", (on, v) -> on.change(0, v, 0));
        refuses(BEYOND, "GROWS", on -> on.change(0, 7, 0));
        refuses(BEYOND, "FADES", on -> on.change(0, 8, 0));
    }

    private void birth() {
        sentence(5, "its PARENT is the first one, its MARK what both of their MARKS have");
        kin(7, 56, ALL, ALL);
        x.change(2, 3, 1);
        due("nothing is in both", x.birth(0, 1, 0), 4);
        due("its MARK", x.of(4, 2), 0);
        due("its PARENT", x.of(4, 1), 1);
        due("all is in both", x.birth(6, 2, 3), 5);
        due("its MARK", x.of(5, 2), ALL);
        due("its PARENT", x.of(5, 1), 2);
        due("its KIND", x.of(5, 0), 6);
        due("the first and the last one", x.birth(1, 0, 5), 6);
        due("its MARK", x.of(6, 2), 7);
        due("its PARENT", x.of(6, 1), 0);
        x.change(6, 3, 2);
        due("their MARKS, not what they SHOW", x.birth(0, 6, 0), 7);
        due("its MARK", x.of(7, 2), 7);
    }

    private void birthRefused() {
        sentence(5, "BEYOND");
        refusesOutside(0, 6, "kind", (on, v) -> on.birth(v, 0, 1));
        refusesOutside(0, 4, "a", (on, v) -> on.birth(0, v, 1));
        refusesOutside(0, 4, "b", (on, v) -> on.birth(0, 1, v));
        refuses(BEYOND, "of none", SkinLands::new, on -> on.birth(0, 0, 1));

        sentence(5, "also one and the same");
        refuses(BEYOND, "the first one", on -> on.birth(0, 0, 0));
        refuses(BEYOND, "the last one", on -> on.birth(0, 4, 4));

        sentence(5, "FULL");
        refuses(FULL, "a 9th", Lands::eight, on -> on.birth(0, 0, 1));
        kin(0, 0, 0, 0, 0, 0, 0);
        due("the 8th isn't refused", x.birth(0, 0, 1), 7);
        due("the 9th is", x.birth(0, 0, 1), FULL);
    }

    private void who() {
        sentence(6, "KIN that SHOW a CELL, as a set (LAID or not)");
        due("of none", x.who(0), 0);
        kin(set(0, 15), set(15), set(0), set(14));
        due("the first CELL", x.who(0), set(0, 2));
        due("the last CELL", x.who(15), set(0, 1));
        due("nobody", x.who(7), 0);
        x.change(2, 5, 0);
        due("LAID or not", x.who(0), set(0, 2));
        kin(ALL, ALL, ALL, ALL);
        for (int k = 0; k < 4; k++) x.change(k, 2, ALL);
        due("all eight", x.who(5), 255);

        sentence(6, "BEYOND");
        refusesOutside(0, 15, "cell", (on, v) -> on.who(v));
        refuses(BEYOND, "32, which wraps around to 0", on -> on.who(32));
    }

    private void common() {
        sentence(7, "COMMON of two, as a set");
        kin(set(0, 1, 15), set(0, 15, 8), set(2), ALL, ALL);
        x.change(1, 5, 0);
        due("the first and the last CELL", x.common(0, 1), set(0, 15));
        due("nothing", x.common(0, 2), 0);
        due("all", x.common(3, 4), ALL);
        due("not said to be BEYOND: one and the same", x.common(2, 2), set(2));

        sentence(7, "BEYOND");
        refusesOutside(0, 4, "a", (on, v) -> on.common(v, 0));
        refusesOutside(0, 4, "b", (on, v) -> on.common(0, v));
        refuses(BEYOND, "of none", SkinLands::new, on -> on.common(0, 0));
    }

    private void turnedSets() {
        sentence(8, "A set of CELLS TURNED t times (0 to 3)");
        due("the empty set", x.turned(0, 3, 0), 0);
        due("the full set", x.turned(ALL, 3, 0), ALL);
        int[] corners = {0, 3, 15, 12};
        for (int i = 0; i < 4; i++) {
            for (int t = 0; t < 4; t++) {
                due("corner " + corners[i] + ", " + t, x.turned(1 << corners[i], t, 0), 1 << corners[(i + t) % 4]);
            }
        }

        sentence(8, "then MIRRORED (mirror 1) or not (0)");
        due("not", x.turned(set(0, 13), 0, 0), set(0, 13));
        due("MIRRORED", x.turned(set(0, 13), 0, 1), set(3, 14));
        due("the empty set", x.turned(0, 0, 1), 0);
        due("the full set", x.turned(ALL, 0, 1), ALL);
        due("TURNED ahead of that", x.turned(set(1), 1, 1), set(4));
        due("TURNED ahead of that", x.turned(set(1), 3, 1), set(11));

        sentence(8, "BEYOND");
        refusesOutside(0, ALL, "cells", (on, v) -> on.turned(v, 0, 0));
        refusesOutside(0, 3, "t", (on, v) -> on.turned(1, v, 0));
        refusesOutside(0, 1, "mirror", (on, v) -> on.turned(1, 0, v));
    }
}
