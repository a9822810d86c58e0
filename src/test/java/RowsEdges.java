import static java.lang.Integer.MAX_VALUE;
import static java.lang.Integer.MIN_VALUE;

/** Boundary cases of promises 1 to 9: a new object, rows, texts. */
final class RowsEdges {
    private static final int BAD = AbsentPost.BAD;
    private static final int NOTHING = Check.NOTHING, BEYOND = Check.BEYOND, NOUGHT = Check.NOUGHT, SIZE = Check.SIZE;

    private RowsEdges() {
    }

    static void all() {
        newObject();
        row();
        lay();
        at();
        tear();
        copyRefused();
        copyWithin();
        mean();
        text();
        put();
    }

    private static void newObject() {
        Edge.says(1, "No ROWS, TEXTS, HOUSES.");
        AbsentPost x = new AbsentPost();
        Edge.due(x.count(0), 0);
        Edge.due(x.count(7), 0);
        Edge.due(x.count(8), 0);
        for (int k = 0; k <= 5; k++) {
            int r = k;
            Edge.found(x, () -> x.at(r, 0), NOTHING);
        }
        for (int k = 0; k <= 3; k++) {
            int t = k;
            Edge.found(x, () -> x.fault(t), NOTHING);
        }
        Edge.refused(x, () -> x.house(0, 0), BAD);
        Edge.due(x.empty(0), 0);
        Edge.due(x.empty(11), 0);
        Edge.due(x.never(), 0);
        Edge.due(x.feigned(), 0);
    }

    private static void row() {
        Edge.says(2, "A ROW is there with n ints 0: n.");
        AbsentPost x = new AbsentPost();
        Edge.due(x.row(0, 0), 0);
        Edge.found(x, () -> x.at(0, 0), BEYOND);
        Edge.due(x.count(7), 1);
        Edge.due(x.row(5, 40), 40);
        for (int i = 0; i < 40; i++) {
            Edge.told(x, x.lay(5, i, -1), 0);
        }
        Edge.found(x, () -> x.at(5, 40), BEYOND);
        Edge.due(x.row(5, 2), 2);
        Edge.rowIs(x, 5, 0, 0);
        Edge.due(x.row(5, 3), 3);
        Edge.rowIs(x, 5, 0, 0, 0);
        Edge.says(2, "BAD: also n above 40");
        Edge.refused(x, () -> x.row(5, 41), BAD);
        Edge.refused(x, () -> x.row(5, MAX_VALUE), BAD);
        Edge.refused(x, () -> x.row(6, 1), BAD);
        Edge.refused(x, () -> x.row(-1, 1), BAD);
        Edge.refused(x, () -> x.row(MAX_VALUE, 1), BAD);
        Edge.refused(x, () -> x.row(MIN_VALUE, 1), BAD);
        Edge.says(2, "SIZE: below 0");
        Edge.found(x, () -> x.row(5, -1), SIZE);
        Edge.found(x, () -> x.row(4, MIN_VALUE), SIZE);
        Edge.refused(x, () -> x.row(6, -1), BAD);
    }

    private static void lay() {
        AbsentPost x = new AbsentPost();
        x.row(0, 2);
        Edge.says(3, "Place i of a ROW is v: what it was, told by asked(): 1.");
        Edge.told(x, x.lay(0, 1, MIN_VALUE), 0);
        Edge.told(x, x.lay(0, 1, MAX_VALUE), MIN_VALUE);
        Edge.rowIs(x, 0, 0, MAX_VALUE);
        Edge.says(3, "BAD");
        Edge.refused(x, () -> x.lay(6, 0, 1), BAD);
        Edge.refused(x, () -> x.lay(-1, 0, 1), BAD);
        Edge.refused(x, () -> x.lay(MIN_VALUE, -1, 1), BAD);
        Edge.says(3, "NOTHING");
        Edge.found(x, () -> x.lay(5, 0, 1), NOTHING);
        Edge.found(x, () -> x.lay(5, -1, 1), NOTHING);
        Edge.says(3, "BEYOND");
        Edge.found(x, () -> x.lay(0, 2, 1), BEYOND);
        Edge.found(x, () -> x.lay(0, -1, 1), BEYOND);
        Edge.found(x, () -> x.lay(0, MAX_VALUE, 1), BEYOND);
        Edge.found(x, () -> x.lay(0, MIN_VALUE, 1), BEYOND);
    }

    private static void at() {
        AbsentPost x = new AbsentPost();
        Check.lay(x, 3, 7, -8);
        Edge.says(4, "Place i of a ROW, told by asked(): 1.");
        Edge.told(x, x.at(3, 0), 7);
        Edge.told(x, x.at(3, 1), -8);
        Edge.says(4, "BAD");
        Edge.refused(x, () -> x.at(6, 0), BAD);
        Edge.refused(x, () -> x.at(-1, 0), BAD);
        Edge.refused(x, () -> x.at(MAX_VALUE, -1), BAD);
        Edge.says(4, "NOTHING");
        Edge.found(x, () -> x.at(2, 0), NOTHING);
        Edge.found(x, () -> x.at(2, MIN_VALUE), NOTHING);
        Edge.says(4, "BEYOND");
        Edge.found(x, () -> x.at(3, 2), BEYOND);
        Edge.found(x, () -> x.at(3, -1), BEYOND);
        Edge.found(x, () -> x.at(3, MIN_VALUE), BEYOND);
        x.row(4, 0);
        Edge.found(x, () -> x.at(4, 0), BEYOND);
    }

    private static void tear() {
        AbsentPost x = new AbsentPost();
        Edge.says(5, "A ROW is missing: 1.");
        x.row(0, 0);
        x.row(5, 40);
        Edge.due(x.tear(0), 1);
        Edge.due(x.count(7), 1);
        Edge.due(x.tear(5), 1);
        Edge.due(x.count(7), 0);
        Edge.says(5, "NOTHING");
        Edge.found(x, () -> x.tear(0), NOTHING);
        Edge.found(x, () -> x.tear(1), NOTHING);
        Edge.says(5, "BAD");
        Edge.refused(x, () -> x.tear(6), BAD);
        Edge.refused(x, () -> x.tear(-1), BAD);
        Edge.refused(x, () -> x.tear(MIN_VALUE), BAD);
    }

    private static void copyRefused() {
        AbsentPost x = new AbsentPost();
        Check.lay(x, 0, 1, 2, 3);
        Check.lay(x, 5, 9, 8);
        Edge.says(6, "BAD");
        Edge.refused(x, () -> x.copy(6, 0, 0, 0, 1), BAD);
        Edge.refused(x, () -> x.copy(-1, 0, 0, 0, 1), BAD);
        Edge.refused(x, () -> x.copy(0, 0, 6, 0, 1), BAD);
        Edge.refused(x, () -> x.copy(0, 0, -1, 0, -1), BAD);
        Edge.says(6, "SIZE: n below 0");
        Edge.found(x, () -> x.copy(0, 0, 5, 0, -1), SIZE);
        Edge.found(x, () -> x.copy(4, 9, 3, 9, MIN_VALUE), SIZE);
        Edge.says(6, "NOTHING: either");
        Edge.found(x, () -> x.copy(4, 0, 5, 0, 0), NOTHING);
        Edge.found(x, () -> x.copy(0, 0, 4, 0, 0), NOTHING);
        Edge.found(x, () -> x.copy(4, 9, 0, 9, 9), NOTHING);
        Edge.says(6, "BEYOND: not so many there");
        Edge.found(x, () -> x.copy(0, 1, 5, 0, 3), BEYOND);
        Edge.found(x, () -> x.copy(0, 0, 5, 0, 3), BEYOND);
        Edge.found(x, () -> x.copy(0, 0, 5, 1, 2), BEYOND);
        Edge.found(x, () -> x.copy(0, 2, 5, 0, 2), BEYOND);
        Edge.found(x, () -> x.copy(0, -1, 5, 0, 1), BEYOND);
        Edge.found(x, () -> x.copy(0, 0, 5, -1, 1), BEYOND);
        copyFarOff();
    }

    /** Where the place and how many together would wrap around. */
    private static void copyFarOff() {
        AbsentPost x = new AbsentPost();
        Check.lay(x, 0, 1, 2, 3);
        Edge.found(x, () -> x.copy(0, MAX_VALUE, 0, 0, 1), BEYOND);
        Edge.found(x, () -> x.copy(0, 0, 0, MAX_VALUE, MAX_VALUE), BEYOND);
        Edge.found(x, () -> x.copy(0, 1, 0, 1, MAX_VALUE), BEYOND);
        Edge.found(x, () -> x.copy(0, MIN_VALUE, 0, 0, 0), BEYOND);
        Edge.found(x, () -> x.copy(0, 4, 0, 0, 0), BEYOND);
        Edge.found(x, () -> x.copy(0, 0, 0, 4, 0), BEYOND);
        Edge.found(x, () -> x.copy(0, -1, 0, 0, 0), BEYOND);
        Edge.due(x.copy(0, 3, 0, 3, 0), 1);
        Edge.rowIs(x, 0, 1, 2, 3);
    }

    private static void copyWithin() {
        Edge.says(6, "n places of a ROW, from one on, come to those of another one (perhaps itself) from one on, as if taken ahead: 1.");
        AbsentPost x = new AbsentPost();
        Check.lay(x, 0, 1, 2, 3, 4);
        Edge.due(x.copy(0, 0, 0, 1, 3), 1);
        Edge.rowIs(x, 0, 1, 1, 2, 3);
        Check.lay(x, 0, 1, 2, 3, 4);
        Edge.due(x.copy(0, 1, 0, 0, 3), 1);
        Edge.rowIs(x, 0, 2, 3, 4, 4);
        Edge.due(x.copy(0, 0, 0, 0, 4), 1);
        Edge.rowIs(x, 0, 2, 3, 4, 4);
        x.row(1, 40);
        x.row(2, 40);
        x.lay(1, 0, 5);
        x.lay(1, 39, 6);
        Edge.due(x.copy(1, 0, 2, 0, 40), 1);
        Edge.told(x, x.at(2, 0), 5);
        Edge.told(x, x.at(2, 39), 6);
        Edge.due(x.copy(1, 39, 2, 38, 1), 1);
        Edge.told(x, x.at(2, 38), 6);
        x.row(3, 0);
        Edge.due(x.copy(3, 0, 3, 0, 0), 1);
        Edge.due(x.copy(3, 0, 0, 4, 0), 1);
        Edge.rowIs(x, 0, 2, 3, 4, 4);
    }

    private static void mean() {
        AbsentPost x = new AbsentPost();
        Edge.says(7, "BAD");
        Edge.refused(x, () -> x.mean(6), BAD);
        Edge.refused(x, () -> x.mean(-1), BAD);
        Edge.says(7, "NOTHING");
        Edge.found(x, () -> x.mean(0), NOTHING);
        Edge.says(7, "NOUGHT");
        x.row(0, 0);
        Edge.found(x, () -> x.mean(0), NOUGHT);
        Edge.says(7, "The mean of a ROW's ints, cut, told by asked(): 1.");
        Check.lay(x, 0, 5);
        Edge.told(x, x.mean(0), 5);
        Check.lay(x, 0, 2, 2, 1);
        Edge.told(x, x.mean(0), 1);
        Check.lay(x, 0, -2, -2, -1);
        Edge.told(x, x.mean(0), -1);
        Check.lay(x, 0, 1, 0);
        Edge.told(x, x.mean(0), 0);
        Check.lay(x, 0, -1, 0);
        Edge.told(x, x.mean(0), 0);
        Check.lay(x, 0, MAX_VALUE, MAX_VALUE, MAX_VALUE - 1);
        Edge.told(x, x.mean(0), MAX_VALUE - 1);
        Check.lay(x, 0, MIN_VALUE, MIN_VALUE);
        Edge.told(x, x.mean(0), MIN_VALUE);
        Check.lay(x, 0, MAX_VALUE, MIN_VALUE);
        Edge.told(x, x.mean(0), 0);
        AbsentPost y = new AbsentPost();
        y.row(0, 40);
        for (int i = 0; i < 40; i++) {
            y.lay(0, i, MAX_VALUE);
        }
        Edge.told(y, y.mean(0), MAX_VALUE);
        y.row(0, 3);
        y.lay(0, 0, 6);
        Edge.told(y, y.mean(0), 2);
    }

    private static void text() {
        Edge.says(8, "A TEXT is there with n blanks: n.");
        AbsentPost x = new AbsentPost();
        Edge.due(x.text(0, 0), 0);
        Edge.found(x, () -> x.put(0, 0, 1), BEYOND);
        Edge.due(x.text(3, 60), 60);
        for (int i = 0; i < 60; i++) {
            Edge.due(x.put(3, i, 104), 1032);
        }
        Edge.due(x.text(3, 2), 2);
        Edge.due(x.text(3, 60), 60);
        Edge.due(x.put(3, 1, 104), 1032);
        Edge.due(x.put(3, 59, 104), 1032);
        Edge.due(x.count(8), 2);
        Edge.says(8, "BAD: also n above 60");
        Edge.refused(x, () -> x.text(3, 61), BAD);
        Edge.refused(x, () -> x.text(3, MAX_VALUE), BAD);
        Edge.refused(x, () -> x.text(4, 1), BAD);
        Edge.refused(x, () -> x.text(-1, 1), BAD);
        Edge.says(8, "SIZE: below 0");
        Edge.found(x, () -> x.text(3, -1), SIZE);
        Edge.found(x, () -> x.text(1, MIN_VALUE), SIZE);
        Edge.refused(x, () -> x.text(4, -1), BAD);
    }

    private static void put() {
        Edge.says(9, "Byte i of a TEXT is v, cut to a byte: what it was, and 1000 more.");
        AbsentPost x = new AbsentPost();
        x.text(0, 2);
        int[] puts = {127, 128, 255, 256, -1, -128, -129, MAX_VALUE, MIN_VALUE, 32};
        int[] bytes = {127, -128, -1, 0, -1, -128, 127, -1, 0, 32};
        int was = 32;
        for (int k = 0; k < puts.length; k++) {
            Edge.due(x.put(0, 1, puts[k]), was + 1000);
            was = bytes[k];
        }
        Edge.due(x.put(0, 1, 0), 1032);
        Edge.due(x.put(0, 0, 0), 1032);
        Edge.says(9, "BAD");
        Edge.refused(x, () -> x.put(4, 0, 1), BAD);
        Edge.refused(x, () -> x.put(-1, 0, 1), BAD);
        Edge.says(9, "NOTHING");
        Edge.found(x, () -> x.put(3, 0, 1), NOTHING);
        Edge.found(x, () -> x.put(3, -1, 1), NOTHING);
        Edge.says(9, "BEYOND");
        Edge.found(x, () -> x.put(0, 2, 1), BEYOND);
        Edge.found(x, () -> x.put(0, -1, 1), BEYOND);
        Edge.found(x, () -> x.put(0, MAX_VALUE, 1), BEYOND);
        Edge.found(x, () -> x.put(0, MIN_VALUE, 1), BEYOND);
    }
}
