import static java.lang.Integer.MAX_VALUE;
import static java.lang.Integer.MIN_VALUE;

/** Boundary cases of promises 14 to 18: errands, walks, what is undone, kept posts. */
final class DeedEdges {
    private static final int BAD = AbsentPost.BAD, FULL = AbsentPost.FULL, STATE = AbsentPost.STATE;
    private static final int NOTHING = Check.NOTHING, UNLIKE = Check.UNLIKE, SIZE = Check.SIZE;

    private DeedEdges() {
    }

    static void all() {
        errand();
        errandRefused();
        walkRefused();
        walkInThisOrder();
        walk();
        undoRefused();
        undoWholeDays();
        undoLongRounds();
        undoRoundsOfEachSize();
        keep();
        on();
    }

    /** Forty deeds, all but the last one by lots. */
    private static AbsentPost full(String signs) {
        AbsentPost x = Check.posted(signs);
        x.row(0, 1);
        x.lots(20, 7);
        x.lots(19, 8);
        x.walk(0);
        Edge.due(x.count(2), 40);
        return x;
    }

    private static void errand() {
        Edge.says(14, "An ERRAND of a HOUSE at an HOUR: how many HOURS it is EMPTY then.");
        AbsentPost x = Check.posted("h0090i0000f0000t0000s0000d0000");
        Edge.due(x.errand(0, 11), 10);
        Edge.due(x.errand(1, 0), 1);
        Edge.due(x.errand(2, 0), 2);
        Edge.due(x.errand(2, 11), 4);
        Edge.due(x.errand(3, 0), 1);
        Edge.due(x.errand(3, 11), 1);
        Edge.due(x.errand(3, 10), 2);
        Edge.due(x.errand(4, 0), 0);
        Edge.due(x.errand(5, 11), 6);
        Edge.due(x.errand(5, 10), 7);
        Edge.due(x.count(2), 10);
        Edge.due(x.count(1), 0);
    }

    private static void errandRefused() {
        AbsentPost x = Check.posted("h0010i0110");
        Edge.says(14, "BAD");
        Edge.refused(x, () -> x.errand(2, 5), BAD);
        Edge.refused(x, () -> x.errand(-1, 5), BAD);
        Edge.refused(x, () -> x.errand(MIN_VALUE, 5), BAD);
        Edge.refused(x, () -> x.errand(0, 12), BAD);
        Edge.refused(x, () -> x.errand(0, -1), BAD);
        Edge.refused(x, () -> x.errand(0, 32), BAD);
        AbsentPost none = new AbsentPost();
        Edge.refused(none, () -> none.errand(0, 0), BAD);
        Edge.says(14, "STATE: its people are out at it");
        Edge.refused(x, () -> x.errand(0, 0), STATE);
        Edge.refused(x, () -> x.errand(1, 1), STATE);
        x.errand(1, 2);
        Edge.refused(x, () -> x.errand(1, 2), STATE);
        Edge.due(x.errand(1, 0), 2);
        Edge.says(14, "FULL: 40 DEEDS");
        AbsentPost y = full("h0010");
        Edge.refused(y, () -> y.errand(0, 1), FULL);
        y.undo(39);
        Edge.due(y.errand(0, 1), 2);
        Edge.refused(y, () -> y.errand(0, 2), FULL);
        Edge.says(14, "(FULL last.)");
        Edge.refused(y, () -> y.errand(0, 0), STATE);
        Edge.refused(y, () -> y.errand(0, 1), STATE);
        Edge.refused(y, () -> y.errand(1, 2), BAD);
        Edge.refused(y, () -> y.errand(0, 12), BAD);
    }

    private static void walkRefused() {
        AbsentPost x = Check.posted("h0010h0110");
        Edge.says(15, "BAD");
        Edge.refused(x, () -> x.walk(6), BAD);
        Edge.refused(x, () -> x.walk(-1), BAD);
        Edge.refused(x, () -> x.walk(MAX_VALUE), BAD);
        Edge.says(15, "STATE: no HOUSES");
        AbsentPost none = new AbsentPost();
        none.row(0, 0);
        Edge.refused(none, () -> none.walk(0), STATE);
        Edge.says(15, "NOTHING");
        Edge.found(x, () -> x.walk(5), NOTHING);
        Edge.says(15, "SIZE: more than 12");
        x.row(0, 13);
        Edge.found(x, () -> x.walk(0), SIZE);
        x.row(0, 40);
        Edge.found(x, () -> x.walk(0), SIZE);
        x.row(0, 12);
        Edge.due(x.walk(0), 0);
        Edge.says(15, "UNLIKE: no HOUSE");
        int[] none2 = {2, -1, MAX_VALUE, MIN_VALUE};
        for (int v : none2) {
            x.lay(0, 11, v);
            Edge.found(x, () -> x.walk(0), UNLIKE);
        }
        x.lay(0, 11, 1);
        x.lay(0, 0, 2);
        Edge.found(x, () -> x.walk(0), UNLIKE);
        Edge.says(15, "FULL.");
        AbsentPost y = full("h0010");
        Edge.refused(y, () -> y.walk(0), FULL);
        y.undo(39);
        y.walk(0);
        Edge.due(y.count(1), 40);
    }

    private static void walkInThisOrder() {
        Edge.says(15, "(In this order.)");
        AbsentPost x = new AbsentPost();
        Edge.refused(x, () -> x.walk(6), BAD);
        Edge.refused(x, () -> x.walk(0), STATE);
        x.row(0, 13);
        x.lay(0, 0, 9);
        Edge.refused(x, () -> x.walk(0), STATE);
        AbsentPost y = full("h0010");
        Edge.found(y, () -> y.walk(1), NOTHING);
        Edge.refused(y, () -> y.walk(6), BAD);
        y.row(0, 13);
        y.lay(0, 0, 9);
        Edge.found(y, () -> y.walk(0), SIZE);
        Check.lay(y, 0, 1);
        Edge.found(y, () -> y.walk(0), UNLIKE);
        Check.lay(y, 0, 0);
        Edge.refused(y, () -> y.walk(0), FULL);
    }

    private static void walk() {
        Edge.says(15, "A ROUND in a ROW is walked: how many LETTERS were brought.");
        AbsentPost x = Check.posted("h0019h0119h0219h0319h0419h0519");
        x.row(0, 0);
        Edge.due(x.walk(0), 0);
        Edge.due(x.count(1), 1);
        Edge.due(x.count(3), 60);
        Check.lay(x, 0, 0, 1, 2, 3, 4, 5, 5, 5, 5, 5, 5, 5);
        Edge.due(x.walk(0), 60);
        Edge.due(x.count(3), 6);
        Edge.due(x.count(4), 60);
        Check.lay(x, 0, 5, 4, 3, 2, 1, 0);
        Edge.due(x.walk(0), 1);
        // a row that goes on afterwards changes nothing of what was walked
        long ahead = x.digest();
        x.lay(0, 0, 0);
        x.lay(0, 0, 5);
        x.errand(0, 7);
        x.undo(3);
        Edge.due(x.digest(), ahead);
        AbsentPost y = Check.posted("h0000h1111");
        Check.lay(y, 0, 1, 0, 1, 0, 1, 0, 1, 0, 1, 0, 1, 0);
        Edge.due(y.walk(0), 1);
    }

    private static void undoRefused() {
        Edge.says(16, "BAD.");
        AbsentPost none = new AbsentPost();
        Edge.refused(none, () -> none.undo(1), BAD);
        Edge.refused(none, () -> none.undo(-1), BAD);
        AbsentPost x = Check.posted("h0010h0110");
        Edge.refused(x, () -> x.undo(1), BAD);
        x.errand(0, 1);
        x.errand(0, 2);
        Edge.refused(x, () -> x.undo(3), BAD);
        Edge.refused(x, () -> x.undo(-1), BAD);
        Edge.refused(x, () -> x.undo(MAX_VALUE), BAD);
        Edge.refused(x, () -> x.undo(MIN_VALUE), BAD);
        Edge.says(16, "DEEDS from number n on are undone: how many.");
        Edge.due(none.undo(0), 0);
        long ahead = x.digest();
        Edge.due(x.undo(2), 0);
        Edge.due(x.digest(), ahead);
        Edge.due(x.undo(1), 1);
        Edge.told(x, x.house(0, 1), 3);
        Edge.due(x.undo(0), 1);
        Edge.due(x.undo(0), 0);
        Edge.told(x, x.house(0, 1), 1);
        AbsentPost y = full("h0010");
        Edge.refused(y, () -> y.undo(41), BAD);
        Edge.due(y.undo(40), 0);
        Edge.due(y.count(2), 40);
        Edge.due(y.undo(39), 1);
        Edge.due(y.undo(0), 39);
        Edge.due(y.count(2), 0);
    }

    /** Days, letters, errands of an earlier day come back; lots' days one by one. */
    private static void undoWholeDays() {
        AbsentPost x = Check.posted("i0003h0004s0005");
        Check.lay(x, 0, 0, 1);
        long start = x.digest();
        x.errand(0, 0);
        long set = x.digest();
        Edge.due(x.walk(0), 3);
        long walked = x.digest();
        x.lots(3, 12345);
        Edge.due(x.count(2), 5);
        Edge.due(x.undo(2), 3);
        Edge.due(x.digest(), walked);
        Edge.due(x.undo(1), 1);
        Edge.due(x.digest(), set);
        Edge.due(x.walk(0), 3);
        Edge.due(x.digest(), walked);
        Edge.due(x.undo(0), 2);
        Edge.due(x.digest(), start);
        // rows, texts, kept posts are no deeds
        x.errand(0, 0);
        x.keep(1);
        x.row(5, 1);
        x.undo(0);
        Edge.due(x.count(7), 2);
        Edge.due(x.count(9), 1);
        Edge.due(x.on(1), 1);
    }

    /** A round of twelve houses and one of none are done again as they were. */
    private static void undoLongRounds() {
        AbsentPost x = Check.posted("h0091h0092h0093h0094h0095h0096");
        Check.lay(x, 0, 5, 5, 5, 5, 5, 4, 3, 4, 5, 5, 5, 5);
        Edge.due(x.walk(0), 5 + 4 + 6);
        long twelve = x.digest();
        x.row(0, 0);
        x.walk(0);
        x.row(0, 12);
        long ahead = x.digest();
        x.walk(0);
        Edge.due(x.undo(2), 1);
        Edge.due(x.digest(), ahead);
        Check.lay(x, 0, 5, 5, 5, 5, 5, 4, 3, 4, 5, 5, 5, 5);
        Edge.due(x.undo(1), 1);
        Edge.due(x.digest(), twelve);
        x.errand(5, 10);
        long out = x.digest();
        x.walk(0);
        Edge.due(x.undo(2), 1);
        Edge.due(x.digest(), out);
    }

    /** Of each size that a round may have, one whose last house alone gets letters. */
    private static void undoRoundsOfEachSize() {
        for (int size = 0; size <= 12; size++) {
            AbsentPost x = Check.posted("s0009h0000h0000h0000h0000h0097");
            x.row(0, size);
            if (size > 0) {
                x.lay(0, size - 1, 5);
            }
            Edge.due(x.walk(0), size > 0 ? 7 : 0);
            long walked = x.digest();
            x.errand(1, 1);
            Edge.due(x.undo(1), 1);
            Edge.due(x.digest(), walked);
        }
    }

    private static void keep() {
        Edge.says(17, "BAD");
        AbsentPost none = new AbsentPost();
        Edge.refused(none, () -> none.keep(3), BAD);
        Edge.refused(none, () -> none.keep(-1), BAD);
        Edge.refused(none, () -> none.keep(MIN_VALUE), BAD);
        Edge.says(17, "STATE: no HOUSES");
        Edge.refused(none, () -> none.keep(0), STATE);
        Edge.refused(none, () -> none.keep(2), STATE);
        Edge.says(17, "The POST (as it is, DEEDS) is kept in a place (0 .. 2): how many DEEDS.");
        AbsentPost x = full("h0010h0110");
        Edge.due(x.keep(2), 40);
        x.undo(1);
        Edge.due(x.keep(1), 1);
        x.undo(0);
        Edge.due(x.keep(0), 0);
        Edge.due(x.count(9), 3);
        Edge.refused(x, () -> x.keep(3), BAD);
        Edge.due(x.on(2), 40);
        Edge.due(x.count(1), 40);
        // over what was kept there
        Edge.due(x.keep(0), 40);
        Edge.due(x.count(9), 3);
        x.undo(0);
        Edge.due(x.on(0), 40);
    }

    private static void on() {
        Edge.says(18, "BAD");
        AbsentPost x = Check.posted("h0013i0114");
        Edge.refused(x, () -> x.on(3), BAD);
        Edge.refused(x, () -> x.on(-1), BAD);
        Edge.refused(x, () -> x.on(MAX_VALUE), BAD);
        Edge.says(18, "NOTHING");
        x.keep(1);
        Edge.found(x, () -> x.on(0), NOTHING);
        Edge.found(x, () -> x.on(2), NOTHING);
        Edge.says(18, "The POST is as it was kept: how many DEEDS.");
        Check.lay(x, 0, 0, 1);
        x.errand(1, 7);
        x.walk(0);
        x.errand(1, 8);
        x.keep(0);
        long kept = x.digest();
        x.walk(0);
        x.lots(5, 9);
        Edge.due(x.on(0), 3);
        Edge.due(x.digest(), kept);
        // what goes on from it leaves it as it was
        x.walk(0);
        Edge.due(x.undo(0), 4);
        Edge.due(x.on(0), 3);
        Edge.due(x.digest(), kept);
        Edge.due(x.undo(1), 2);
        Edge.told(x, x.house(1, 1), 2 + 128);
        Edge.due(x.on(1), 0);
        Edge.due(x.count(1), 0);
        Edge.due(x.count(9), 2);
        // other deeds were done since: undone is down to those that were kept
        AbsentPost y = Check.posted("h0013i0114");
        Check.lay(y, 0, 0, 1);
        y.errand(1, 9);
        y.walk(0);
        y.keep(2);
        y.undo(0);
        y.errand(0, 8);
        y.errand(0, 9);
        Edge.due(y.on(2), 2);
        Edge.due(y.undo(1), 1);
        Edge.told(y, y.house(1, 1), 2 + 512);
        Edge.told(y, y.house(0, 1), 1);
        Edge.due(y.count(9), 1);
    }
}
