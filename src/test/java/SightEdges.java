import static java.lang.Integer.MAX_VALUE;
import static java.lang.Integer.MIN_VALUE;

/** Boundary cases of promises 28 to 30: who feigned, by what was seen. */
final class SightEdges {
    private static final int BAD = AbsentPost.BAD;
    private static final int NOTHING = Check.NOTHING, UNLIKE = Check.UNLIKE, SIZE = Check.SIZE;
    private static final int HOUSE = 1, INVALID = 2, FEIGNED = 4, TWIN = 8, SNOWED = 16, DOCTOR = 32;

    private SightEdges() {
    }

    static void all() {
        kinds();
        kindsRefused();
        outs();
        outsAtTheEnds();
        outsRefused();
        feigned();
    }

    private static int kindsBy(String signs, int... seen) {
        AbsentPost x = Check.posted(signs);
        Check.lay(x, 0, seen);
        return x.kinds(0, 0);
    }

    private static void kinds() {
        Edge.says(28, "Of which KINDS (bits) a HOUSE can be, if it was seen EMPTY, or not: a ROW of pairs (an HOUR, 1 or 0).");
        Edge.due(kindsBy("h0010"), 63);
        Edge.due(kindsBy("h0010", 0, 1), HOUSE + FEIGNED + TWIN + DOCTOR);
        Edge.due(kindsBy("h0010", 0, 0), INVALID + SNOWED);
        Edge.due(kindsBy("h0010", 1, 1), FEIGNED);
        Edge.due(kindsBy("h0010", 11, 1), 0);
        Edge.due(kindsBy("h0010", 11, 0), 63);
        Edge.due(kindsBy("h0110", 1, 1), HOUSE + FEIGNED);
        Edge.due(kindsBy("h0110", 0, 1), FEIGNED + DOCTOR);
        Edge.due(kindsBy("h1020", 11, 1), HOUSE + FEIGNED + TWIN + DOCTOR);
        Edge.due(kindsBy("h1110", 11, 1), HOUSE + FEIGNED);
        Edge.due(kindsBy("h1110", 0, 1), DOCTOR);
        Edge.due(kindsBy("h0000", 0, 1, 0, 0), 0);
        Edge.due(kindsBy("h0000", 0, 1, 0, 1), DOCTOR);
        // twenty pairs, by which a doctor is told
        AbsentPost x = Check.posted("h0000s0000");
        x.row(5, 40);
        for (int k = 0; k < 20; k++) {
            x.lay(5, 2 * k, k % 12);
            x.lay(5, 2 * k + 1, 1 - k % 2);
        }
        Edge.due(x.kinds(0, 5), DOCTOR);
        Edge.due(x.kinds(1, 5), DOCTOR);
        x.lay(5, 39, 1);
        Edge.due(x.kinds(0, 5), 0);
        // errands of this day are known
        x.errand(1, 4);
        Check.lay(x, 0, 4, 1, 5, 0);
        Edge.due(x.kinds(1, 0), HOUSE + INVALID + DOCTOR);
        Edge.due(x.kinds(0, 0), DOCTOR);
    }

    private static void kindsRefused() {
        AbsentPost x = Check.posted("h0010");
        x.row(0, 0);
        Edge.says(28, "BAD");
        Edge.refused(x, () -> x.kinds(1, 0), BAD);
        Edge.refused(x, () -> x.kinds(-1, 0), BAD);
        Edge.refused(x, () -> x.kinds(0, 6), BAD);
        Edge.refused(x, () -> x.kinds(0, MIN_VALUE), BAD);
        AbsentPost none = new AbsentPost();
        none.row(0, 0);
        Edge.refused(none, () -> none.kinds(0, 0), BAD);
        Edge.says(28, "NOTHING");
        Edge.found(x, () -> x.kinds(0, 5), NOTHING);
        Edge.refused(x, () -> x.kinds(1, 5), BAD);
        Edge.says(28, "SIZE: not by pairs");
        x.row(0, 1);
        Edge.found(x, () -> x.kinds(0, 0), SIZE);
        x.row(0, 39);
        Edge.found(x, () -> x.kinds(0, 0), SIZE);
        Check.lay(x, 0, 12, 2, 0);
        Edge.found(x, () -> x.kinds(0, 0), SIZE);
        Edge.says(28, "UNLIKE");
        int[][] none2 = {{12, 0}, {-1, 0}, {MAX_VALUE, 0}, {32, 0}, {0, 2}, {0, -1}, {0, 0, 11, 2}};
        for (int[] seen : none2) {
            Check.lay(x, 0, seen);
            Edge.found(x, () -> x.kinds(0, 0), UNLIKE);
        }
        // also where an earlier pair is at odds already
        Check.lay(x, 0, 0, 0, 0, 1, 12, 0);
        Edge.found(x, () -> x.kinds(0, 0), UNLIKE);
    }

    private static int outsBy(String signs, int n, int... seen) {
        AbsentPost x = Check.posted(signs);
        Check.lay(x, 0, seen);
        return x.outs(0, n, 0);
    }

    private static void outs() {
        Edge.says(29, "From which HOURS on (bits 0 .. 11) its people can be out for n (0 .. 9) HOURS");
        Edge.due(outsBy("h0010", 0), 4095);
        Edge.due(outsBy("h0010", 9), 4095);
        Edge.due(outsBy("h0010", 0, 0, 1), 0);
        Edge.due(outsBy("h0010", 0, 0, 0), 4095);
        Edge.due(outsBy("h0010", 1, 0, 1), 1);
        Edge.due(outsBy("h0010", 1, 11, 1), 2048);
        Edge.due(outsBy("h0010", 9, 0, 1), 1);
        Edge.due(outsBy("h0010", 9, 8, 1), 511);
        Edge.due(outsBy("h0010", 9, 9, 1), 1022);
        Edge.due(outsBy("h0010", 1, 0, 1, 0, 0), 0);
        Edge.due(outsBy("s0010", 9, 0, 1), 0);
        Edge.due(outsBy("s0010", 9, 0, 0), 4095);
        for (int hour = 0; hour < 12; hour++) {
            Edge.due(outsBy("i0010", 9, hour, 1), 0);
            Edge.due(outsBy("i0010", 9, hour, 0), 4095);
        }
        Edge.due(outsBy("f0010", 1, 0, 1), 3);
        Edge.due(outsBy("f0010", 0, 0, 1), 0);
        Edge.due(outsBy("t0010", 1, 0, 1), 1);
        Edge.due(outsBy("t0010", 1, 1, 1), 0);
        Edge.due(outsBy("t0010", 2, 1, 1), 1);
        Edge.due(outsBy("d0010", 0, 10, 1), 4095);
        Edge.due(outsBy("d0010", 0, 11, 1), 0);
        Edge.due(outsBy("d0010", 2, 11, 1), 1024);
    }

    private static void outsAtTheEnds() {
        Edge.says(29, "(those behind HOUR 11 left out)");
        Edge.due(outsBy("h0010", 9, 11, 1), 0xFF8);
        Edge.due(outsBy("h0010", 9, 11, 1, 10, 0), 2048);
        Edge.due(outsBy("h0010", 9, 0, 0, 11, 0), 2 + 4);
        Edge.due(outsBy("f0010", 9, 10, 1, 9, 0), 2048);
        Edge.due(outsBy("f0010", 2, 0, 1), 3);
        Edge.says(29, "by what was seen so, without ERRANDS");
        AbsentPost x = Check.posted("i0010h0010");
        x.errand(0, 5);
        x.errand(1, 5);
        Check.lay(x, 0, 5, 1);
        Edge.due(x.outs(0, 9, 0), 0);
        Edge.due(x.outs(1, 1, 0), 32);
        Check.lay(x, 0, 5, 0);
        Edge.due(x.outs(0, 9, 0), 4095);
        Edge.due(x.outs(1, 1, 0), 4095 - 32);
    }

    private static void outsRefused() {
        AbsentPost x = Check.posted("h0010");
        x.row(0, 0);
        Edge.says(29, "BAD");
        Edge.refused(x, () -> x.outs(1, 0, 0), BAD);
        Edge.refused(x, () -> x.outs(-1, 0, 0), BAD);
        Edge.refused(x, () -> x.outs(0, 10, 0), BAD);
        Edge.refused(x, () -> x.outs(0, -1, 0), BAD);
        Edge.refused(x, () -> x.outs(0, MAX_VALUE, 0), BAD);
        Edge.refused(x, () -> x.outs(0, 0, 6), BAD);
        Edge.refused(x, () -> x.outs(0, 0, -1), BAD);
        Edge.refused(x, () -> x.outs(0, 10, 5), BAD);
        Edge.says(29, "NOTHING");
        Edge.found(x, () -> x.outs(0, 0, 5), NOTHING);
        Edge.says(29, "SIZE");
        x.row(0, 1);
        Edge.found(x, () -> x.outs(0, 0, 0), SIZE);
        Check.lay(x, 0, 12, 2, 0);
        Edge.found(x, () -> x.outs(0, 0, 0), SIZE);
        Edge.says(29, "UNLIKE");
        int[][] none = {{12, 0}, {-1, 1}, {0, 2}, {0, -1}, {0, 0, 0, 1, 0, 2}};
        for (int[] seen : none) {
            Check.lay(x, 0, seen);
            Edge.found(x, () -> x.outs(0, 0, 0), UNLIKE);
        }
    }

    private static void feigned() {
        Edge.says(30, "HOUSES (bits) that seem EMPTY at some HOUR at which their people are not out.");
        Edge.due(new AbsentPost().feigned(), 0);
        Edge.due(Check.posted("h0090i0090f0000t0090s0090d0000").feigned(), 32);
        Edge.due(Check.posted("f0010f1110f0090f0390f0290f0000").feigned(), 1 + 2 + 4 + 8 + 16);
        AbsentPost x = Check.posted("f0390d0190i0000");
        x.errand(0, 1);
        x.errand(0, 2);
        Edge.due(x.feigned(), 1 + 2);
        x.errand(0, 0);
        Edge.due(x.feigned(), 2);
        x.errand(1, 0);
        Edge.due(x.feigned(), 2);
        x.errand(1, 10);
        x.errand(2, 0);
        Edge.due(x.feigned(), 0);
    }
}
