/** Promises 9 and 10, and what "Terms" says of the YEAR. */
final class YearsEdges extends Edges {
    YearsEdges(Held held) {
        super(held);
    }

    @Override
    void run() {
        yearGrows();
        yearFades();
        yearAges();
        years();
        yearsRefused();
        setsOfNow();
        numbersOfNow();
        nowRefused();
    }

    private void yearGrows() {
        terms("the least CELL that isn't in its MARK and is BESIDE one of it, if there is one, comes to its MARK");
        kin(ALL, ALL - 1, ALL >> 1, set(10), set(0, 15));
        x.go(1);
        dueMark("a full MARK: there is none", 0, ALL);
        dueMark("the first CELL", 1, ALL);
        dueMark("the last CELL", 2, ALL);
        dueMark("the least of four", 3, set(10, 6));
        dueMark("the least of both", 4, set(0, 15, 1));
        x.kin(3, ALL >> 1);
        x.go(1);
        dueMark("the second one of a CHILD: there is none", 5, ALL);

        terms("to an empty MARK: the CELL that is twice its number");
        kin(0, 0, 0, 0, 0, 0, 0, 0);
        x.go(1);
        for (int k = 0; k < 8; k++) dueMark("of number " + k, k, 1 << 2 * k);

        terms("(1) as often as one GROWS");
        x.kin(2, 1);
        x.kin(0, 1);
        x.kin(3, 1);
        x.go(1);
        dueMark("never", 0, set(0));
        dueMark("once", 1, set(0, 1));
        dueMark("twice", 2, set(0, 1, 2));
    }

    private void yearFades() {
        terms("(2) if it FADES and its AGE is that or more: the greatest CELL of its MARK is gone");
        kin(set(0), set(15), set(3, 12), ALL, ALL);
        for (int k = 0; k < 3; k++) aged(k, 60);
        aged(3, 60);
        aged(4, 59);
        x.go(1);
        dueMark("what has grown just now is gone", 0, set(0));
        dueMark("the last CELL", 1, set(11));
        dueMark("what has grown stays", 2, set(2, 3));
        dueMark("of a full MARK", 3, ALL >> 1);
        dueMark("by the AGE ahead of the YEAR", 4, ALL);
        x.kin(4, 0);
        aged(5, 999);
        x.change(5, 0, 1);
        x.go(1);
        dueMark("an empty MARK: what comes goes again", 5, 0);
    }

    private void yearAges() {
        terms("(3) AGE is 1 more (999 at most)");
        kin(0);
        x.go(1);
        due("1", x.of(0, 4), 1);
        aged(0, 997);
        x.go(1);
        due("998", x.of(0, 4), 998);
        x.go(1);
        due("999", x.of(0, 4), 999);
        x.go(1);
        due("999 at most", x.of(0, 4), 999);
        x.go(60);
        due("999 at most", x.of(0, 4), 999);

        terms("YEAR is one more (99999 at most)");
        x.go(1);
        due("1", x.count(0), 1);
        x.go(60);
        due("61", x.count(0), 61);
    }

    private void years() {
        sentence(9, "n YEARS (1 to 60): what is KNOWN then, as a set");
        due("nobody", x.go(1), 0);
        due("YEAR", x.count(0), 1);
        kin(1);
        due("the fewest", x.go(1), 3);
        due("YEAR", x.count(0), 2);
        due("the most", x.go(60), ALL >> 1);
        due("YEAR", x.count(0), 62);
        x.change(0, 4, 0);
        due("the most, no YEAR too many", x.go(60), ALL);
        due("AGE", x.of(0, 4), 60);
        due("one YEAR more", x.go(1), ALL >> 1);
        x.change(0, 5, 0);
        due("not LAID", x.go(1), 0);
    }

    private void yearsRefused() {
        sentence(9, "BEYOND");
        refusesOutside(1, 60, "n", (on, v) -> on.go(v));
        refuses(BEYOND, "n -1", on -> on.go(-1));
    }

    private void setsOfNow() {
        sentence(10, "1 what is KNOWN, as a set");
        due("nobody", x.now(1), 0);
        kin(set(0), ALL - 1);
        due("all", x.now(1), ALL);
        x.change(1, 5, 0);
        due("one CELL", x.now(1), 1);
        x.change(0, 5, 0);
        due("nobody is LAID", x.now(1), 0);

        sentence(10, "2 what isn't, as a set");
        due("nobody", x.now(2), ALL);
        kin(ALL);
        due("all is", x.now(2), 0);
        x.change(0, 2, ALL - 1);
        due("all but one", x.now(2), 1);

        sentence(10, "3 those LAID, as a set");
        due("nobody", x.now(3), 0);
        kin(0, 0, 0, 0, 0, 0, 0, 0);
        due("all eight", x.now(3), 255);
        x.change(0, 5, 0);
        x.change(7, 5, 0);
        due("but for the first and the last", x.now(3), 126);
        for (int k = 1; k < 7; k++) x.change(k, 5, 0);
        due("none", x.now(3), 0);

        sentence(10, "6 KNOWN CELLS that just one of those LAID SHOWS, as a set");
        due("nobody", x.now(6), 0);
        kin(ALL);
        due("one alone", x.now(6), ALL);
        kin(set(0, 1));
        due("two SHOW it", x.now(6), ALL - 3);
        kin(set(1, 2));
        due("two, three SHOW it", x.now(6), ALL - 7);
        kin(set(1));
        due("four SHOW it", x.now(6), ALL - 7);
        x.change(0, 5, 0);
        due("one that isn't LAID", x.now(6), set(0, 2));
    }

    private void numbersOfNow() {
        sentence(10, "0 YEAR");
        due("at first", x.now(0), 0);
        x.go(60);
        due("behind 60", x.now(0), 60);

        sentence(10, "4 who SHOWS most CELLS (-1: there is nobody)");
        due("nobody", x.now(4), -1);
        due("that is no finding", x.status(-1), 0);
        kin(0);
        due("one who SHOWS nothing", x.now(4), 0);
        kin(0, 0, 0, 0, 0, 0, 1);
        due("the last one", x.now(4), 7);
        x.change(0, 2, 6);
        due("the first one", x.now(4), 0);

        sentence(10, "5 CELLS of all MARKS together (each as often as it is there)");
        due("nobody", x.now(5), 0);
        kin(0);
        due("an empty MARK", x.now(5), 0);
        kin(1, 1);
        due("one CELL twice", x.now(5), 2);
        x.change(2, 5, 0);
        due("all MARKS, LAID or not", x.now(5), 2);
        kin(0, 0, 0, 0, 0);
        for (int k = 0; k < 8; k++) x.change(k, 2, ALL);
        due("eight full MARKS", x.now(5), 128);
    }

    private void nowRefused() {
        sentence(10, "BEYOND");
        refusesOutside(0, 6, "what", (on, v) -> on.now(v));
    }
}
