import static java.lang.Integer.MAX_VALUE;
import static java.lang.Integer.MIN_VALUE;

/** Boundary cases of promises 36 to 42: what is told. */
final class ToldEdges {
    private static final int BAD = AbsentPost.BAD;
    private static final int NOTHING = Check.NOTHING, BEYOND = Check.BEYOND, UNLIKE = Check.UNLIKE;
    private static final int NOUGHT = Check.NOUGHT, SIZE = Check.SIZE;

    private ToldEdges() {
    }

    static void all() {
        asked();
        askedByOthers();
        shares();
        count();
        countRefused();
        finding();
        findings();
        digest();
        digestOfPost();
    }

    private static void asked() {
        Edge.says(36, "What the latest lay(), at(), mean(), house(), brings(), most() that was not refused told; 0 before.");
        AbsentPost x = new AbsentPost();
        Edge.due(x.asked(), 0);
        x.row(0, 1);
        x.lay(0, 1, 5);
        x.at(1, 0);
        x.mean(1);
        x.house(0, 0);
        x.brings(0);
        x.most();
        Edge.due(x.asked(), 0);
        AbsentPost y = Check.posted("h0015h0000");
        Check.lay(y, 0, 7, 9);
        y.lay(0, 0, 1);
        Edge.due(y.asked(), 7);
        y.at(0, 1);
        Edge.due(y.asked(), 9);
        y.mean(0);
        Edge.due(y.asked(), 5);
        y.house(0, 3);
        Edge.due(y.asked(), 1);
        y.row(0, 1);
        y.brings(0);
        Edge.due(y.asked(), 3);
        y.most();
        Edge.due(y.asked(), 2);
        y.at(0, 0);
        Edge.due(y.asked(), 0);
    }

    /** None of the other calls tells anything by asked(). */
    private static void askedByOthers() {
        AbsentPost x = Check.posted("i0015h0092");
        Check.write(x, 1, "h0000");
        Check.lay(x, 0, 0, 1);
        x.house(1, 1);
        x.row(1, 2);
        x.row(2, 2);
        x.copy(0, 0, 1, 0, 2);
        x.tear(2);
        x.fault(1);
        x.mark(0, 1);
        x.errand(0, 9);
        x.walk(0);
        x.keep(0);
        x.undo(1);
        x.on(0);
        x.empty(0);
        x.hour(0, 1);
        x.should(0, 0);
        x.never();
        x.best(3);
        x.soon();
        x.errands();
        x.kinds(0, 1);
        x.outs(0, 1, 1);
        x.feigned();
        x.sack(0, 3);
        x.race(2);
        x.mid(0, 3);
        x.odds(0, 3);
        x.lots(1, 1);
        x.upper();
        x.lower();
        x.count(3);
        x.finding();
        x.findings(1);
        x.digest();
        x.post(1);
        Edge.due(x.asked(), 511);
        Edge.due(x.finding(), 0);
    }

    private static void shares() {
        AbsentPost x = Check.posted("h0014");
        Edge.says(37, "0 before");
        Edge.due(x.upper(), 0);
        Edge.says(38, "1 before");
        Edge.due(x.lower(), 1);
        x.row(0, 1);
        x.mid(0, 13);
        x.odds(1, 1);
        Edge.due(x.upper(), 0);
        Edge.due(x.lower(), 1);
        Edge.says(37, "The upper number of the chances that were told last");
        x.mid(0, 5);
        Edge.due(x.upper(), 7);
        x.odds(0, 5);
        Edge.due(x.upper(), 7);
        x.odds(0, 3);
        Edge.due(x.upper(), 3);
        Edge.says(38, "Its lower number");
        Edge.due(x.lower(), 4);
        x.mid(0, 5);
        Edge.due(x.lower(), 3);
        // neither a new post, nor what is refused, nor another mean changes them
        x.mid(0, -1);
        x.odds(9, 5);
        x.mean(0);
        x.walk(0);
        x.post(0);
        x.undo(0);
        Edge.due(x.upper(), 7);
        Edge.due(x.lower(), 3);
        x.mid(0, 12);
        Edge.due(x.upper(), 0);
        Edge.due(x.lower(), 1);
    }

    private static void count() {
        Edge.says(39, "0 HOUSES, 1 the DAY, 2 DEEDS, 3 LETTERS due, 4 LETTERS brought, 5 INVALIDS (SNOWED ones, too), 6 TWINS (DOCTORS, too), 7 ROWS, 8 TEXTS that are there, 9 kept POSTS.");
        AbsentPost x = Check.posted("h0019i0009f0009t0009s0009d0009");
        int[] counts = {6, 0, 0, 54, 0, 2, 2, 0, 1, 0};
        for (int what = 0; what <= 9; what++) {
            Edge.due(x.count(what), counts[what]);
        }
        for (int r = 0; r <= 5; r++) {
            x.row(r, 0);
        }
        for (int t = 0; t <= 3; t++) {
            x.text(t, 0);
        }
        for (int k = 0; k <= 2; k++) {
            x.keep(k);
        }
        Check.lay(x, 0, 0);
        x.errand(1, 1);
        x.walk(0);
        x.errand(1, 1);
        int[] more = {6, 1, 3, 54 - 9 + 5, 9, 2, 2, 6, 4, 3};
        for (int what = 0; what <= 9; what++) {
            Edge.due(x.count(what), more[what]);
        }
        AbsentPost one = Check.posted("h0000");
        one.keep(1);
        Edge.due(one.count(9), 1);
        Edge.due(Check.posted("s0000s0000s0000s0000s0000s0000").count(5), 6);
        Edge.due(Check.posted("d0000d0000d0000d0000d0000d0000").count(6), 6);
        Edge.due(Check.posted("d0000t0000t0000").count(5), 0);
        Edge.due(Check.posted("i0000s0000f0000h0000").count(6), 0);
    }

    private static void countRefused() {
        Edge.says(39, "BAD.");
        AbsentPost x = new AbsentPost();
        Edge.refused(x, () -> x.count(10), BAD);
        Edge.refused(x, () -> x.count(-1), BAD);
        Edge.refused(x, () -> x.count(MAX_VALUE), BAD);
        Edge.refused(x, () -> x.count(MIN_VALUE), BAD);
        for (int what = 0; what <= 9; what++) {
            Edge.due(x.count(what), 0);
        }
    }

    private static void finding() {
        Edge.says(40, "The latest FINDING (0 before any).");
        AbsentPost x = new AbsentPost();
        Edge.due(x.finding(), 0);
        x.at(6, 0);
        x.walk(0);
        x.fault(4);
        Edge.due(x.finding(), 0);
        x.at(0, 0);
        Edge.due(x.finding(), NOTHING);
        x.row(0, 0);
        x.at(0, 0);
        Edge.due(x.finding(), BEYOND);
        x.mean(0);
        Edge.due(x.finding(), NOUGHT);
        x.row(0, -1);
        Edge.due(x.finding(), SIZE);
        Check.write(x, 0, "h0000");
        x.post(0);
        Edge.due(x.finding(), SIZE);
        x.mark(0, 1);
        Edge.due(x.finding(), UNLIKE);
        x.at(0, 0);
        Edge.due(x.finding(), BEYOND);
        x.finding();
        x.findings(1);
        x.walk(6);
        Edge.due(x.finding(), BEYOND);
    }

    private static void findings() {
        Edge.says(41, "How often a FINDING (1 .. 5) was answered.");
        AbsentPost x = new AbsentPost();
        for (int f = 1; f <= 5; f++) {
            Edge.due(x.findings(f), 0);
        }
        for (int k = 0; k < 100; k++) {
            x.tear(0);
        }
        x.row(0, -1);
        x.row(0, 41);
        x.walk(0);
        Edge.due(x.findings(1), 100);
        Edge.due(x.findings(5), 1);
        Edge.due(x.findings(2) + x.findings(3) + x.findings(4), 0);
        Edge.says(41, "BAD.");
        Edge.refused(x, () -> x.findings(0), BAD);
        Edge.refused(x, () -> x.findings(6), BAD);
        Edge.refused(x, () -> x.findings(-1), BAD);
        Edge.refused(x, () -> x.findings(MAX_VALUE), BAD);
        Edge.refused(x, () -> x.findings(MIN_VALUE), BAD);
    }

    private static long folded(long... values) {
        long h = 17;
        for (long v : values) {
            h = 31 * h + v;
        }
        return h;
    }

    private static void digest() {
        Edge.says(42, "h = 17; then h = 31 h + v for each v: count() 0 to 9");
        AbsentPost x = new AbsentPost();
        Edge.due(x.digest(), folded(0, 0, 0, 0, 0, 0, 0, 0, 0, 0, -1, -1, -1,
            -1, -1, -1, -1, -1, -1, -1, -1, -1, -1));
        Edge.says(42, "of each ROW its size (-1: missing) and places, of each TEXT likewise");
        x.row(0, 0);
        x.text(3, 0);
        Edge.due(x.digest(), folded(0, 0, 0, 0, 0, 0, 0, 1, 1, 0, -1, -1, -1,
            0, -1, -1, -1, -1, -1, -1, -1, -1, 0));
        Check.lay(x, 5, MIN_VALUE, MAX_VALUE, 0);
        x.text(0, 2);
        x.put(0, 0, -128);
        x.put(0, 1, 127);
        Edge.due(x.digest(), folded(0, 0, 0, 0, 0, 0, 0, 2, 2, 0, -1, -1, -1,
            0, -1, -1, -1, -1, 3, MIN_VALUE, MAX_VALUE, 0, 2, -128, 127, -1, -1, 0));
        x.tear(5);
        x.tear(0);
        x.text(0, 0);
        Edge.due(x.digest(), folded(0, 0, 0, 0, 0, 0, 0, 0, 2, 0, -1, -1, -1,
            -1, -1, -1, -1, -1, -1, 0, -1, -1, 0));
    }

    private static void digestOfPost() {
        Edge.says(42, "of each kept POST how many DEEDS (-1: missing)");
        AbsentPost one = Check.posted("h0000");
        one.text(0, 0);
        one.keep(1);
        Edge.due(one.digest(), folded(1, 0, 0, 0, 0, 0, 0, 0, 1, 1, 0, 0, 0, 0, 0, -1, 0, -1,
            -1, -1, -1, -1, -1, -1, 0, -1, -1, -1));
        Edge.says(42, "of each HOUSE house() 0 to 4; of each kept POST how many DEEDS (-1: missing)");
        AbsentPost x = Check.posted("f0015d1132");
        x.text(0, 0);
        x.keep(2);
        x.row(0, 1);
        x.errand(1, 10);
        x.keep(0);
        Edge.due(x.digest(), folded(2, 0, 1, 7, 0, 0, 1, 1, 1, 2, 2, 1, 5, 3, 0, 5, 3072, 2, 0x555 + 2048, 0,
            1, -1, 0, 1, 0, -1, -1, -1, -1, -1, 0, -1, -1, -1));
        x.walk(0);
        Edge.due(x.digest(), folded(2, 1, 2, 4, 5, 0, 1, 1, 1, 2, 2, 1, 1, 3, 5, 5, 2048, 3, 0x555, 0,
            1, -1, 0, 1, 0, -1, -1, -1, -1, -1, 0, -1, -1, -1));
    }
}
