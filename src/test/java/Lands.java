import java.util.ArrayList;
import java.util.List;

/** Lands on which calls are tried, and all that can be asked of one. */
final class Lands {
    private Lands() { }

    /** Five KIN, YEAR 3, two SPOTS taken, a sheet of each size and one MISSING, a TEXT on THE TAPE, an image. */
    static SkinLands five() {
        SkinLands x = new SkinLands();
        x.kin(0, 19);
        x.kin(1, 1);
        x.kin(2, 4095);
        x.kin(3, 32);
        x.kin(4, 512);
        x.change(0, 3, 1);
        x.change(1, 1, 0);
        x.change(2, 5, 0);
        x.change(3, 1, 1);
        x.change(4, 1, 3);
        x.change(4, 4, 5);
        x.go(2);
        x.hold(0, 1);
        x.hold(9, 4);
        sheet(x, 0, 32, 19, 65535, 7, 65536, -1);
        sheet(x, 1, 16, 1, 2, 300);
        sheet(x, 2, 8, 1, -2);
        x.seed(77);
        x.image();
        x.change(0, 2, 5);
        x.hold(0, 2);
        x.seed(78);
        x.go(1);
        feed(x, "kin mark 9");
        return x;
    }

    /** As five(), and three more, so that there are eight. */
    static SkinLands eight() {
        SkinLands x = five();
        x.kin(5, 3);
        x.kin(6, 8);
        x.kin(0, 0);
        return x;
    }

    /** As five(), and THE TAPE has some bytes. */
    static SkinLands withTape(int bytes) {
        SkinLands x = five();
        x.wipe();
        feed(x, "kin" + " ".repeat(bytes - 3));
        return x;
    }

    /** Nothing is kept. */
    static SkinLands torn() {
        SkinLands x = five();
        x.tear();
        return x;
    }

    static void sheet(SkinLands x, int s, int bits, int... numbers) {
        x.sheet(s, bits, numbers.length);
        for (int i = 0; i < numbers.length; i++) x.write(s, i, numbers[i]);
    }

    static void feed(SkinLands x, String text) {
        for (int i = 0; i < text.length(); i += 4) {
            int n = Math.min(4, text.length() - i);
            int bytes = 0;
            for (int j = 0; j < n; j++) bytes = bytes << 8 | text.charAt(i + j);
            x.feed(bytes, n);
        }
    }

    /** All that a land tells but for status(); it is used up by that. */
    static List<Long> told(SkinLands x) {
        List<Long> told = new ArrayList<>();
        tellFamily(x, told);
        tellSheets(x, told);
        told.add((long) x.text());
        tellFamily(x, told);
        told.add((long) x.undo());
        tellFamily(x, told);
        told.add((long) x.tear());
        return told;
    }

    private static void tellFamily(SkinLands x, List<Long> told) {
        for (int kin = 0; kin < x.count(1); kin++) {
            for (int what = 0; what < 6; what++) told.add((long) x.of(kin, what));
        }
        for (int what = 0; what < 7; what++) told.add((long) x.now(what));
        for (int what = 0; what < 8; what++) told.add((long) x.count(what));
        for (int spot = 0; spot < 10; spot++) told.add((long) x.as(spot, 0));
    }

    private static void tellSheets(SkinLands x, List<Long> told) {
        for (int s = 0; s < 4; s++) {
            for (int t = s + 1; t < 4; t++) told.add((long) x.copy(s, 0, t, 0, 0));
        }
        for (int s = 0; s < 4; s++) {
            for (int i = 0; i < 40 && x.copy(s, i, s, 0, 1) == 1; i++) {
                told.add((long) x.load(s));
                told.add((long) x.of(0, 2));
            }
            told.add((long) x.write(s, 0, 40000));
            told.add((long) x.load(s));
        }
    }
}
