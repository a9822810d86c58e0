import static java.lang.Integer.MAX_VALUE;
import static java.lang.Integer.MIN_VALUE;

/** Boundary cases of promises 10 to 13: faults, posts, houses. */
final class PostEdges {
    private static final int BAD = AbsentPost.BAD, STATE = AbsentPost.STATE, NONE = AbsentPost.NONE;
    private static final int NOTHING = Check.NOTHING, UNLIKE = Check.UNLIKE;

    private PostEdges() {
    }

    static void all() {
        fault();
        postRefused();
        postAnew();
        house();
        houseRefused();
        markInvalid();
        markFeignedTwin();
        markSnowedDoctor();
        markRefused();
    }

    private static void fault() {
        AbsentPost x = new AbsentPost();
        Edge.says(10, "BAD");
        Edge.refused(x, () -> x.fault(4), BAD);
        Edge.refused(x, () -> x.fault(-1), BAD);
        Edge.refused(x, () -> x.fault(MIN_VALUE), BAD);
        Edge.says(10, "NOTHING");
        Edge.found(x, () -> x.fault(3), NOTHING);
        Edge.says(10, "A FAULT of a TEXT");
        x.text(3, 0);
        Edge.due(x.fault(3), 0);
        x.text(3, 60);
        Edge.due(x.fault(3), 60);
        x.put(3, 59, 104);
        Edge.due(x.fault(3), 60);
        x.put(3, 0, 104);
        Edge.due(x.fault(3), 1);
        Edge.due(x.finding(), NOTHING);
        Edge.due(x.findings(NOTHING), 1);
        Edge.says(10, "NONE: there is none");
        Check.write(x, 0, "h0000");
        Edge.due(x.fault(0), NONE);
        Check.write(x, 0, "d1199d1199d1199d1199d1199d1199".concat(" ".repeat(30)));
        Edge.due(x.fault(0), NONE);
    }

    private static void postRefused() {
        AbsentPost x = Check.posted("h0093");
        x.errand(0, 9);
        x.keep(0);
        Edge.says(11, "BAD");
        Edge.refused(x, () -> x.post(4), BAD);
        Edge.refused(x, () -> x.post(-1), BAD);
        Edge.says(11, "NOTHING");
        Edge.found(x, () -> x.post(3), NOTHING);
        Edge.says(11, "STATE: a FAULT");
        x.text(1, 0);
        Edge.refused(x, () -> x.post(1), STATE);
        x.text(1, 60);
        Edge.refused(x, () -> x.post(1), STATE);
        Check.write(x, 1, "h0000 h000");
        Edge.refused(x, () -> x.post(1), STATE);
        Check.write(x, 1, "h0000h0000h0000h0000h0000h0000h0000");
        Edge.refused(x, () -> x.post(1), STATE);
        Edge.due(x.on(0), 1);
        Edge.says(11, "(STATE behind NOTHING.)");
        AbsentPost y = new AbsentPost();
        Edge.found(y, () -> y.post(0), NOTHING);
    }

    private static void postAnew() {
        Edge.says(11, "A POST by a TEXT (anew: DAY 0, no DEEDS, no ERRANDS; kept POSTS go): how many HOUSES.");
        AbsentPost x = Check.posted("h0093h0094h0095h0096h0097h0098");
        x.row(0, 1);
        x.walk(0);
        x.errand(0, 9);
        for (int k = 0; k <= 2; k++) {
            x.keep(k);
        }
        Edge.due(x.post(0), 6);
        int[] counts = {6, 0, 0, 33, 0, 0, 0, 1, 1, 0};
        for (int what = 0; what <= 9; what++) {
            Edge.due(x.count(what), counts[what]);
        }
        Edge.told(x, x.house(0, 1), 511);
        for (int k = 0; k <= 2; k++) {
            int place = k;
            Edge.found(x, () -> x.on(place), NOTHING);
        }
        Edge.due(x.undo(0), 0);
        Edge.refused(x, () -> x.undo(1), BAD);
        Check.write(x, 3, "i0012");
        Edge.due(x.post(3), 1);
        Edge.refused(x, () -> x.house(1, 0), BAD);
        Edge.due(x.count(3), 2);
        // texts of all 60 bytes, of as few and as many houses as may be
        String[] full = {"h0011".concat(" ".repeat(55)), " ".repeat(55).concat("h0011"),
            "h0011h0011h0011h0011h0011h0011".concat(" ".repeat(30)),
            " ".repeat(30).concat("h0011h0011h0011h0011h0011h0011")};
        for (String signs : full) {
            int houses = signs.trim().length() / 5;
            AbsentPost y = Check.posted(signs);
            Edge.due(y.count(0), houses);
            Edge.due(y.count(3), houses);
            Edge.due(y.empty(0), (1 << houses) - 1);
        }
        // the text may go on by itself
        x.text(3, 0);
        Edge.due(x.count(0), 1);
        Edge.due(x.keep(1), 0);
        Edge.due(x.on(1), 0);
    }

    private static void house() {
        AbsentPost x = Check.posted("i0092h0000f0000t0000s0000d1199");
        Edge.says(12, "0 the KIND, 1 the HOURS at which its people are out (bits, ERRANDS, too), 2 LETTERS due, 3 HOURS at which it is EMPTY (bits), 4 LETTERS brought to it till now, told by asked(): 1.");
        int[] first = {1, 511, 2, 0, 0};
        int[] last = {5, 2048, 9, 0x555, 0};
        for (int what = 0; what <= 4; what++) {
            Edge.told(x, x.house(0, what), first[what]);
            Edge.told(x, x.house(5, what), last[what]);
        }
        x.errand(0, 11);
        Edge.told(x, x.house(0, 1), 511 + 2048);
        Edge.told(x, x.house(0, 3), 2048);
        x.errand(5, 10);
        Edge.told(x, x.house(5, 3), 0x555 + 2048);
        Check.lay(x, 0, 0, 5, 0);
        x.errand(0, 10);
        x.walk(0);
        Edge.told(x, x.house(0, 4), 2);
        Edge.told(x, x.house(5, 4), 0);
        x.errand(0, 10);
        x.walk(0);
        Edge.told(x, x.house(0, 4), 3);
        x.undo(4);
        Edge.told(x, x.house(0, 4), 2);
    }

    private static void houseRefused() {
        AbsentPost x = Check.posted("h0000i0000");
        Edge.says(12, "BAD.");
        Edge.refused(x, () -> x.house(2, 0), BAD);
        Edge.refused(x, () -> x.house(-1, 0), BAD);
        Edge.refused(x, () -> x.house(MAX_VALUE, 0), BAD);
        Edge.refused(x, () -> x.house(0, 5), BAD);
        Edge.refused(x, () -> x.house(0, -1), BAD);
        Edge.refused(x, () -> x.house(0, MIN_VALUE), BAD);
        AbsentPost y = new AbsentPost();
        Edge.refused(y, () -> y.house(0, 0), BAD);
    }

    private static void markInvalid() {
        Edge.says(13, "an INVALID one (SNOWED, too) how many LETTERS are due there and at the HOUSES beside it");
        AbsentPost x = Check.posted("i0001i0002s0003h0004i0005s0006");
        Edge.due(x.mark(0, 1), 3);
        Edge.due(x.mark(1, 1), 6);
        Edge.due(x.mark(2, 1), 9);
        Edge.due(x.mark(4, 1), 15);
        Edge.due(x.mark(5, 1), 11);
        x.row(0, 0);
        x.walk(0);
        Edge.due(x.mark(2, 1), 11);
        Edge.due(Check.posted("s0009").mark(0, 1), 9);
        Edge.due(Check.posted("i0000").mark(0, 1), 0);
    }

    private static void markFeignedTwin() {
        Edge.says(13, "a FEIGNED one at how many HOURS it is EMPTY, but its people are not out");
        Edge.due(Check.posted("f0000").mark(0, 2), 0);
        Edge.due(Check.posted("f0010").mark(0, 2), 1);
        Edge.due(Check.posted("f1110").mark(0, 2), 1);
        Edge.due(Check.posted("f0190").mark(0, 2), 2);
        AbsentPost x = Check.posted("f0010");
        x.errand(0, 5);
        Edge.due(x.mark(0, 2), 3);
        Edge.says(13, "a TWIN one (DOCTOR, too) at how many HOURS its people are out, but it is not EMPTY");
        Edge.due(Check.posted("t0000").mark(0, 3), 0);
        Edge.due(Check.posted("t0090").mark(0, 3), 0);
        Edge.due(Check.posted("t0190").mark(0, 3), 1);
        Edge.due(Check.posted("t1190").mark(0, 3), 1);
        Edge.due(Check.posted("d0190").mark(0, 3), 1);
        Edge.due(Check.posted("d0290").mark(0, 3), 0);
        AbsentPost y = Check.posted("t0110");
        y.errand(0, 3);
        y.errand(0, 5);
        Edge.due(y.mark(0, 3), 3);
        y.errand(0, 0);
        Edge.due(y.mark(0, 3), 2);
    }

    private static void markSnowedDoctor() {
        Edge.says(13, "a SNOWED one behind how many DAYS its LETTERS would be 99, if it was not (0: they are)");
        Edge.due(Check.posted("s0000").mark(0, 4), 99);
        Edge.due(Check.posted("s0009").mark(0, 4), 90);
        AbsentPost x = Check.posted("s0090");
        x.lots(20, 1);
        x.lots(20, 1);
        // snowed in, it gets no letter more: no run of calls comes to 0
        Edge.due(x.mark(0, 4), 99);
        Edge.says(13, "a DOCTOR one the first HOUR at which it is not EMPTY (NONE: none)");
        Edge.due(Check.posted("d0000").mark(0, 5), 1);
        Edge.due(Check.posted("d0020").mark(0, 5), 3);
        Edge.due(Check.posted("d0090").mark(0, 5), 9);
        Edge.due(Check.posted("d0110").mark(0, 5), 1);
        Edge.says(13, "NONE: none");
        AbsentPost y = Check.posted("d0390");
        y.errand(0, 0);
        y.errand(0, 1);
        Edge.due(y.mark(0, 5), 3);
        y.errand(0, 2);
        Edge.due(y.mark(0, 5), NONE);
    }

    private static void markRefused() {
        Edge.says(13, "BAD: also KIND 0");
        AbsentPost x = Check.posted("h0000i0000f0000t0000s0000d0000");
        for (int k = 0; k < 6; k++) {
            int h = k;
            Edge.refused(x, () -> x.mark(h, 0), BAD);
        }
        Edge.refused(x, () -> x.mark(0, 6), BAD);
        Edge.refused(x, () -> x.mark(0, -1), BAD);
        Edge.refused(x, () -> x.mark(0, MAX_VALUE), BAD);
        Edge.refused(x, () -> x.mark(6, 1), BAD);
        Edge.refused(x, () -> x.mark(-1, 1), BAD);
        AbsentPost none = new AbsentPost();
        Edge.refused(none, () -> none.mark(0, 1), BAD);
        Edge.says(13, "UNLIKE.");
        boolean[][] is = {{false, false, false, false, false}, {true, false, false, false, false},
            {false, true, false, false, false}, {false, false, true, false, false},
            {true, false, false, true, false}, {false, false, true, false, true}};
        AbsentPost y = Check.posted("h0000i0000f0000t0000s0000d0000");
        int unlike = 0;
        for (int h = 0; h < 6; h++) {
            for (int kind = 1; kind <= 5; kind++) {
                boolean like = is[h][kind - 1];
                Edge.due(y.mark(h, kind) == AbsentPost.FINDING ? 1 : 0, like ? 0 : 1);
                unlike += like ? 0 : 1;
                Edge.due(y.findings(UNLIKE), unlike);
            }
        }
        Edge.due(y.finding(), UNLIKE);
        Edge.found(y, () -> y.mark(1, 4), UNLIKE);
    }
}
