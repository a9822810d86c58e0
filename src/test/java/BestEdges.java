import static java.lang.Integer.MIN_VALUE;

/** Boundary cases of promises 24 to 27: the best round, the fewest errands. */
final class BestEdges {
    private static final int BAD = AbsentPost.BAD, STATE = AbsentPost.STATE, NONE = AbsentPost.NONE;
    /** House 5 alone has letters, and is out at hour 11 alone. */
    private static final String LATE = "h0000h0000h0000h0000h0000h1115";

    private BestEdges() {
    }

    static void all() {
        best();
        bestRow();
        searchAgain();
        bestRefused();
        most();
        soon();
        errandsByKind();
        errandsMore();
        errandsNone();
    }

    private static void expectBest(String signs, int letters, int... round) {
        AbsentPost x = Check.posted(signs);
        Edge.due(x.best(3), letters);
        Edge.rowIs(x, 3, round);
    }

    private static void best() {
        Edge.says(24, "The most LETTERS that such a ROUND brings; the first such by its HOUSES (a shorter one ahead of what goes on)");
        expectBest("h0095", 5, 0);
        expectBest("h0000", 0);
        expectBest("h0090", 0);
        expectBest("s0099i0099", 0);
        expectBest("h0094h0000", 4, 0);
        expectBest("h0094h0094", 8, 0, 1);
        expectBest("h0000h0094", 4, 0, 1);
        expectBest("h0211h0091", 2, 1, 0);
        expectBest("h0221h0231h0930", 1, 0, 2, 1);
        expectBest("h0093h0192h0291h0399h0498h0597", 30, 0, 1, 2, 3, 4, 5);
        expectBest(LATE, 5, 0, 2, 3, 4, 1, 5);
        // each house once at most: house 0 is reached at hour 0, or behind another
        expectBest("h0019h0000", 9, 0);
        expectBest("h0119h0000", 0);
    }

    private static void bestRow() {
        Edge.says(24, "comes to a ROW (anew)");
        AbsentPost x = Check.posted("h0094h0094");
        Edge.due(x.best(5), 8);
        Edge.due(x.count(7), 1);
        Edge.rowIs(x, 5, 0, 1);
        x.row(0, 40);
        x.lay(0, 39, 7);
        Edge.due(x.best(0), 8);
        Edge.rowIs(x, 0, 0, 1);
        Edge.due(x.brings(0), 8);
        AbsentPost y = Check.posted("s0099");
        Check.lay(y, 0, 9, 9);
        Edge.due(y.best(0), 0);
        Edge.rowIs(y, 0);
        Edge.due(y.count(7), 1);
        // forty deeds are no hindrance
        x.lots(20, 1);
        x.lots(20, 1);
        Edge.due(x.best(0) > 0 ? 1 : 0, 1);
    }

    /** By errands of this day; and nothing of an earlier search stays for a later one. */
    private static void searchAgain() {
        Edge.says(24, "The most LETTERS that such a ROUND brings");
        AbsentPost x = Check.posted("i0003h0002s0009");
        Edge.due(x.best(0), 0);
        x.errand(0, 0);
        x.errand(1, 1);
        Edge.due(x.best(0), 5);
        Edge.rowIs(x, 0, 0, 1);
        Edge.due(x.most(), 2);
        Edge.due(x.asked(), 2);
        Edge.due(x.soon(), 1);
        x.undo(1);
        Edge.due(x.best(0), 3);
        Edge.rowIs(x, 0, 0);
        Edge.due(x.most(), 1);
        Edge.due(x.asked(), 5);
        Edge.due(x.soon(), 0);
        x.undo(0);
        Edge.due(x.best(0), 0);
        Edge.rowIs(x, 0);
        Edge.due(x.most(), 0);
        Edge.due(x.asked(), 16);
        Edge.due(x.most(), 0);
        Edge.due(x.asked(), 16);
        Edge.due(x.soon(), 0);
        Check.write(x, 1, "h0000h0191");
        x.post(1);
        Edge.due(x.best(0), 1);
        Edge.rowIs(x, 0, 0, 1);
        Edge.due(x.soon(), 1);
        Check.write(x, 1, "s0009");
        x.post(1);
        Edge.due(x.soon(), 0);
    }

    private static void bestRefused() {
        Edge.says(24, "BAD");
        AbsentPost x = Check.posted("h0094");
        Edge.refused(x, () -> x.best(6), BAD);
        Edge.refused(x, () -> x.best(-1), BAD);
        Edge.refused(x, () -> x.best(MIN_VALUE), BAD);
        AbsentPost none = new AbsentPost();
        Edge.refused(none, () -> none.best(6), BAD);
        Edge.says(24, "STATE: no HOUSES");
        none.row(0, 1);
        Edge.refused(none, () -> none.best(0), STATE);
        Edge.refused(none, () -> none.best(5), STATE);
    }

    private static void expectMost(String signs, int houses, int rounds) {
        AbsentPost x = Check.posted(signs);
        Edge.due(x.most(), houses);
        Edge.due(x.asked(), rounds);
    }

    private static void most() {
        Edge.says(25, "The most HOUSES with LETTERS due to which such a ROUND brings them; how many such ROUNDS do by asked().");
        expectMost("h0091", 1, 1);
        expectMost("h0090", 0, 2);
        expectMost("h0001", 0, 2);
        expectMost("h0091h0000", 1, 3);
        expectMost("h0091h0090", 1, 3);
        expectMost("h0099h0091", 2, 2);
        // of six houses there are 1 + 6 + 30 + 120 + 360 + 720 + 720 rounds
        expectMost("s0099s0099s0099s0099s0099s0099", 0, 1957);
        expectMost("h0090h0090h0090h0090h0090h0090", 0, 1957);
        // one house with many letters is less than two with few
        expectMost("h0411h0311h0000h0319", 2, 2);
        // house 1 is never reached at an even hour: all rounds that begin with house 0
        expectMost("h0019h0211h0000h0000h0000h0000", 1, 326);
        Edge.says(25, "STATE: no HOUSES");
        AbsentPost none = new AbsentPost();
        Edge.refused(none, none::most, STATE);
    }

    private static void expectSoon(String signs, int hour) {
        Edge.due(Check.posted(signs).soon(), hour);
    }

    private static void soon() {
        Edge.says(26, "The least HOUR at which such a ROUND, that brings as many LETTERS as best() tells, brings its last ones (0, if it brings none).");
        expectSoon("h0000", 0);
        expectSoon("s0099h0090", 0);
        expectSoon("h0095", 0);
        expectSoon("h0095h0000h0000", 0);
        expectSoon("h0095h0095", 1);
        expectSoon("h0000h0000h0000h0000h0000h0091", 5);
        expectSoon(LATE, 11);
        // the first best round, 0 2 1, would be at hour 3; 1 0 is at 2
        expectSoon("h0221h0231h0930", 2);
        // a round with fewer letters would be sooner
        expectSoon("h0091h0000h0299", 2);
        Edge.says(26, "STATE: no HOUSES");
        AbsentPost none = new AbsentPost();
        Edge.refused(none, none::soon, STATE);
    }

    private static void expectErrands(String signs, int errands) {
        Edge.due(Check.posted(signs).errands(), errands);
    }

    private static void errandsByKind() {
        Edge.says(27, "The fewest ERRANDS more (2 at most of a HOUSE, each at an HOUR at which its people are not out) by which the ROUND that goes to HOUSES 0, 1, .. (to the last one) brings all LETTERS that are due.");
        expectErrands("h0000", 0);
        expectErrands("h0001", 1);
        expectErrands("h0011", 0);
        expectErrands("i0001", 1);
        expectErrands("f0001", 1);
        expectErrands("f0111", 0);
        expectErrands("f0211", 1);
        expectErrands("t0001", 1);
        expectErrands("d0001", 0);
        expectErrands("h0000t0001", 2);
        expectErrands("h0000t0011", 1);
        expectErrands("h0000t0111", 1);
        expectErrands("h0000t0021", 0);
        expectErrands("h0000d0001", 2);
        expectErrands("h0000d0111", 1);
        expectErrands("h0000h0000d0001", 0);
        expectErrands("s0000i0010h0000", 0);
        expectErrands("h0000h0000h0000h0000h0000h0001", 1);
        expectErrands("h0000h0000h0000h0000h0000t0001", 2);
        expectErrands("t0001t0001t0001t0001t0001t0001", 11);
        expectErrands("h0011h0111h0211h0311h0411h0511", 0);
    }

    private static void errandsMore() {
        AbsentPost x = Check.posted("i0001t0001");
        Edge.due(x.errands(), 3);
        x.errand(1, 1);
        Edge.due(x.errands(), 2);
        x.errand(1, 0);
        Edge.due(x.errands(), 1);
        x.errand(0, 5);
        Edge.due(x.errands(), 1);
        x.errand(0, 0);
        Edge.due(x.errands(), 0);
        // aside: forty deeds are no hindrance
        AbsentPost y = Check.posted("h0000h0000");
        y.lots(20, 1);
        y.lots(20, 1);
        long ahead = y.digest();
        Edge.due(y.errands(), 2);
        Edge.due(y.digest(), ahead);
    }

    private static void errandsNone() {
        Edge.says(27, "NONE: by none");
        expectErrands("s0001", NONE);
        expectErrands("s0091", NONE);
        expectErrands("h0091h0091s0001", NONE);
        expectErrands("i0011", NONE);
        expectErrands("i0111", 1);
        expectErrands("h0000i0111", NONE);
        expectErrands("h0001i0021t0001", NONE);
        Edge.says(27, "STATE: no HOUSES");
        AbsentPost none = new AbsentPost();
        Edge.refused(none, none::errands, STATE);
    }
}
