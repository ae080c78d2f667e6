/**
 * The last of an object's 512 calls, and the latest YEAR. No 512 calls come to that one, so that the document leaves
 * free what is answered there: what is looked at is that the class keeps to its words all the same.
 */
final class LateEdges extends Edges {
    private static final int LATEST = 99999;

    LateEdges(Held held) {
        super(held);
    }

    @Override
    void run() {
        allCalls();
        yearOfAllCalls();
        goTooLate();
        molesTooLate();
        latestYear();
        findingOfLateYears();
    }

    private void allCalls() {
        sentence(Document.WHAT_IT_IS, "An object is used for at most 512 calls after it has been made");
        for (int call = 1; call <= 511; call++) x.go(60);
        due("the 512th, YEAR", x.count(0), 30660);
        x = new SkinLands();
        for (int call = 1; call <= 511; call++) x.who(16);
        due("the 512th, findings", x.status(-1), 511);
        x = Lands.eight();
        for (int call = 101; call <= 511; call++) x.change(7, 2, call);
        due("one of the last, MARK", x.of(7, 2), 511);
    }

    private void liveTill(int year) {
        x = new SkinLands();
        for (int left = year; left > 0; left -= 60) x.go(Math.min(left, 60));
    }

    /** The latest YEAR that an object comes to within its 512 calls. */
    private void yearOfAllCalls() {
        sentence(9, "STATE: YEAR would be above 99999");
        int refused = 0;
        for (int call = 1; call <= 510; call++) {
            if (x.go(60) != 0) refused++;
        }
        due("none is refused", refused, 0);
        due("YEAR", x.count(0), 30600);

        sentence(25, "STATE: YEAR would be above 99999");
        for (int call = 1; call <= 510; call++) {
            if (x.moles(20) != 0) refused++;
        }
        due("none is refused", refused, 0);
        due("YEAR", x.count(0), 10200);
    }

    private void goTooLate() {
        sentence(9, "YEAR would be above 99999");
        liveTill(LATEST - 60);
        due("not above", x.go(60), 0);
        due("YEAR", x.count(0), LATEST);
        due("one above", x.go(1), STATE);
        due("far above", x.go(60), STATE);
        due("YEAR", x.count(0), LATEST);
        liveTill(LATEST - 59);
        due("60 YEARS, one above", x.go(60), STATE);
        due("YEAR", x.count(0), LATEST - 59);
        due("59 YEARS", x.go(59), 0);
    }

    private void molesTooLate() {
        sentence(25, "YEAR would be above 99999");
        liveTill(LATEST - 20);
        due("not above", x.moles(20), 0);
        due("YEAR", x.count(0), LATEST);
        int z = x.count(6);
        due("one above", x.moles(1), STATE);
        due("far above", x.moles(20), STATE);
        due("YEAR", x.count(0), LATEST);
        due("z", x.count(6), z);
        liveTill(LATEST - 19);
        due("20 YEARS, one above", x.moles(20), STATE);
        due("YEAR", x.count(0), LATEST - 19);
        due("19 YEARS", x.moles(19), 0);
    }

    /** 99999 is no multiple of 4, so that a SAILOR doesn't grow in a YEAR that stays so; 100000 would be one. */
    private void latestYear() {
        terms("YEAR is one more (99999 at most)");
        liveTill(LATEST - 1);
        x.kin(6, 1);
        due("behind one", x.ahead(0, 2, 1), 1);
        due("behind 100", x.ahead(0, 2, 100), 1);
        x.go(1);
        due("the latest YEAR", x.count(0), LATEST);
        due("behind 100", x.ahead(0, 2, 100), 1);
        due("nothing changes", x.count(0), LATEST);
    }

    private void findingOfLateYears() {
        terms("LOW - 4 STATE");
        liveTill(LATEST);
        due("go", x.go(1), -1000005);
        due("moles", x.moles(1), -1000005);
        due("status(4)", x.status(4), 2);

        terms("Each act tells its findings in the order in which they are asked");
        liveTill(LATEST);
        due("go: BEYOND, STATE", x.go(61), BEYOND);
        due("moles: BEYOND, STATE", x.moles(21), BEYOND);
    }
}
