import static java.lang.Integer.MAX_VALUE;
import static java.lang.Integer.MIN_VALUE;

/** Boundary cases of promises 31 to 35: the sack, a wag, rain, lots. */
final class DayEdges {
    private static final int BAD = AbsentPost.BAD, FULL = AbsentPost.FULL, STATE = AbsentPost.STATE;
    private static final int NOTHING = Check.NOTHING, UNLIKE = Check.UNLIKE, SIZE = Check.SIZE;

    private DayEdges() {
    }

    /** A call that takes a round in a row and one number more. */
    private interface RoundCall {
        int of(AbsentPost x, int r, int n);
    }

    static void all() {
        sack();
        refusedRounds(31, AbsentPost::sack, 30);
        race();
        raceTwice();
        raceRefused();
        mid();
        refusedRounds(33, AbsentPost::mid, 12);
        odds();
        refusedRounds(34, AbsentPost::odds, 12);
        lots();
        lotsRefused();
    }

    /** What sack(), mid(), odds() refuse, each in the same order; the number is 0 to most. */
    private static void refusedRounds(int promise, RoundCall call, int most) {
        AbsentPost x = Check.posted("h0010h0010");
        x.row(0, 12);
        Edge.says(promise, "BAD");
        Edge.refused(x, () -> call.of(x, 0, most + 1), BAD);
        Edge.refused(x, () -> call.of(x, 0, -1), BAD);
        Edge.refused(x, () -> call.of(x, 0, MAX_VALUE), BAD);
        Edge.refused(x, () -> call.of(x, 0, MIN_VALUE), BAD);
        Edge.refused(x, () -> call.of(x, 6, 0), BAD);
        Edge.refused(x, () -> call.of(x, -1, 0), BAD);
        Edge.due(call.of(x, 0, 0) >= 0 ? 1 : 0, 1);
        Edge.due(call.of(x, 0, most) >= 0 ? 1 : 0, 1);
        Edge.says(promise, "STATE");
        AbsentPost none = new AbsentPost();
        none.row(0, 0);
        Edge.refused(none, () -> call.of(none, 0, 0), STATE);
        Edge.says(promise, "NOTHING");
        Edge.found(x, () -> call.of(x, 5, 0), NOTHING);
        Edge.says(promise, "SIZE");
        x.row(0, 13);
        Edge.found(x, () -> call.of(x, 0, 0), SIZE);
        Edge.says(promise, "UNLIKE");
        Check.lay(x, 0, 0, 2);
        Edge.found(x, () -> call.of(x, 0, 0), UNLIKE);
        Check.lay(x, 0, -1);
        Edge.found(x, () -> call.of(x, 0, 0), UNLIKE);
        refusedInThisOrder(promise, call, most);
    }

    private static void refusedInThisOrder(int promise, RoundCall call, int most) {
        Edge.says(promise, "(In this order.)");
        AbsentPost none = new AbsentPost();
        Edge.refused(none, () -> call.of(none, 0, most + 1), BAD);
        Edge.refused(none, () -> call.of(none, 6, 0), BAD);
        Edge.refused(none, () -> call.of(none, 5, 0), STATE);
        none.row(0, 13);
        none.lay(0, 0, 9);
        Edge.refused(none, () -> call.of(none, 0, 0), STATE);
        AbsentPost x = Check.posted("h0010");
        Edge.refused(x, () -> call.of(x, 5, -1), BAD);
        Edge.found(x, () -> call.of(x, 5, 0), NOTHING);
        x.row(0, 13);
        x.lay(0, 0, 9);
        Edge.refused(x, () -> call.of(x, 0, -1), BAD);
        Edge.found(x, () -> call.of(x, 0, 0), SIZE);
    }

    private static void sack() {
        Edge.says(31, "How many LETTERS are due in all behind n (0 .. 30) DAYS, if the same ROUND is walked each DAY (ERRANDS on the first alone).");
        AbsentPost x = Check.posted("h0019s0099i0005");
        Check.lay(x, 0, 0, 1, 2);
        long ahead = x.digest();
        Edge.due(x.sack(0, 0), 23);
        Edge.due(x.sack(0, 1), 1 + 9 + 6);
        Edge.due(x.sack(0, 30), 1 + 9 + 35);
        Edge.due(x.digest(), ahead);
        x.errand(2, 2);
        Edge.due(x.sack(0, 0), 23);
        Edge.due(x.sack(0, 1), 1 + 9 + 1);
        Edge.due(x.sack(0, 2), 1 + 9 + 2);
        Edge.due(x.sack(0, 30), 1 + 9 + 30);
        Edge.told(x, x.house(2, 1), 4);
        x.row(0, 0);
        Edge.due(x.sack(0, 30), 39 + 9 + 35);
        // behind forty deeds it goes on aside
        AbsentPost y = Check.posted("i0009");
        y.lots(20, 1);
        y.lots(20, 1);
        y.row(0, 1);
        Edge.due(y.sack(0, 0), 49);
        Edge.due(y.sack(0, 30), 79);
        Edge.due(y.count(2), 40);
    }

    private static void race() {
        Edge.says(32, "n (0 .. 2) times each, the postman begins");
        AbsentPost x = Check.posted("h0015h0119h0000");
        long ahead = x.digest();
        Edge.due(x.race(0), 0);
        Edge.due(x.race(1), 9);
        Edge.due(x.race(2), 9);
        Edge.due(x.digest(), ahead);
        Edge.due(Check.posted("h0095").race(2), 5);
        Edge.due(Check.posted("s0095").race(2), 0);
        Edge.says(32, "By turns the postman goes to a HOUSE (any, from HOUSE 0 at HOUR 0 on, as in a ROUND)");
        Edge.due(Check.posted("h0011h0012h0013h0014h0015h0016").race(1), 1);
        Edge.due(Check.posted("h0011h0112h0213h0314h0415h0516").race(1), 6);
        Edge.due(Check.posted("h0091h0092h0093h0094h0095h0096").race(1), 6);
        // to house 5 at hour 5, back: house 0 at hour 10, house 1 at 9
        Edge.due(Check.posted("h1019h0917h0000h0000h0000h0515").race(2), 5 + 7);
        Edge.due(Check.posted("h1119h0817h0000h0000h0000h0515").race(2), 5);
        // a house gives its letters once
        Edge.due(Check.posted("d0004").race(2), 4);
        // to house 2 for nothing, then there are 5 at house 0 and 1 at house 1: the wag leaves him 1
        Edge.due(Check.posted("h0325h0311h0710").race(2), 1);
        // at an hour too early he stays: no hour goes by
        Edge.due(Check.posted("h0119").race(2), 0);
    }

    private static void raceTwice() {
        Edge.says(32, "a wag has the people of one (any) stay in (it is EMPTY no more this DAY)");
        // 4, the wag keeps 3 in, 1
        Edge.due(Check.posted("h0091h0094h0093").race(2), 5);
        // the only other one stays in
        Edge.due(Check.posted("h0094h0093").race(2), 4);
        Edge.due(Check.posted("h0218h0000").race(2), 0);
        Edge.due(Check.posted("h0095h0095h0095").race(2), 10);
        Edge.due(Check.posted("h0095h0095s0095").race(2), 5);
        AbsentPost x = Check.posted("h0094h0003h0003");
        Edge.due(x.race(2), 4);
        x.errand(1, 1);
        Edge.due(x.race(2), 4);
        x.errand(2, 2);
        Edge.due(x.race(2), 7);
        Edge.told(x, x.house(0, 3), 511);
    }

    private static void raceRefused() {
        Edge.says(32, "BAD");
        AbsentPost x = Check.posted("h0095");
        Edge.refused(x, () -> x.race(3), BAD);
        Edge.refused(x, () -> x.race(-1), BAD);
        Edge.refused(x, () -> x.race(MAX_VALUE), BAD);
        Edge.refused(x, () -> x.race(MIN_VALUE), BAD);
        Edge.says(32, "STATE: no HOUSES");
        AbsentPost none = new AbsentPost();
        Edge.refused(none, () -> none.race(0), STATE);
        Edge.refused(none, () -> none.race(2), STATE);
        Edge.refused(none, () -> none.race(3), BAD);
    }

    private static void mid() {
        Edge.says(33, "The mean of how many LETTERS a ROUND brings by RAIN of p (0 .. 12): 1.");
        AbsentPost x = Check.posted("h0019h0117h0000");
        Check.lay(x, 0, 0, 1, 2, 1, 0);
        long ahead = x.digest();
        Edge.share(x, x.mid(0, 0), 16, 1);
        Edge.share(x, x.mid(0, 12), 0, 1);
        Edge.share(x, x.mid(0, 1), 44, 3);
        Edge.share(x, x.mid(0, 11), 4, 3);
        Edge.share(x, x.mid(0, 6), 8, 1);
        Edge.due(x.digest(), ahead);
        x.row(0, 0);
        Edge.share(x, x.mid(0, 0), 0, 1);
        Check.lay(x, 0, 2);
        Edge.share(x, x.mid(0, 7), 0, 1);
        // letters of many days: 49 of a house
        AbsentPost y = Check.posted("h0019i0000");
        y.row(0, 0);
        for (int day = 0; day < 40; day++) {
            y.walk(0);
        }
        y.row(0, 1);
        Edge.share(y, y.mid(0, 5), 343, 12);
    }

    private static void odds() {
        Edge.says(34, "Chances that it brings all LETTERS that it would bring without RAIN: 1.");
        AbsentPost x = Check.posted("h0019h0117h0000");
        Check.lay(x, 0, 0, 1, 2, 1, 0);
        long ahead = x.digest();
        Edge.share(x, x.odds(0, 0), 1, 1);
        Edge.share(x, x.odds(0, 12), 0, 1);
        Edge.share(x, x.odds(0, 1), 121, 144);
        Edge.share(x, x.odds(0, 11), 1, 144);
        Edge.share(x, x.odds(0, 6), 1, 4);
        Edge.due(x.digest(), ahead);
        // it would bring none: it surely does
        x.row(0, 0);
        Edge.share(x, x.odds(0, 12), 1, 1);
        Check.lay(x, 0, 2);
        Edge.share(x, x.odds(0, 12), 1, 1);
        // an empty house without letters does not matter
        AbsentPost y = Check.posted("h0010h0117");
        Check.lay(y, 0, 0, 1);
        Edge.share(y, y.odds(0, 4), 2, 3);
        AbsentPost z = Check.posted("h0091h0091h0091h0091h0091h0091");
        Check.lay(z, 0, 0, 1, 2, 3, 4, 5);
        Edge.share(z, z.odds(0, 7), 15625, 2985984);
        Edge.share(z, z.odds(0, 6), 1, 64);
    }

    private static void lots() {
        Edge.says(35, "n (1 .. 20) DAYS truly by LOTS of a seed: for each a number: he goes to HOUSES from the one on that it is modulo how many there are, along the lane to its end: LETTERS brought in all.");
        AbsentPost x = Check.posted("h0011h0111");
        // 48271 is odd: from house 1 on
        Edge.due(x.lots(1, 1), 1);
        Edge.told(x, x.house(0, 2), 2);
        Edge.told(x, x.house(1, 2), 1);
        Edge.due(x.count(1), 1);
        Edge.due(x.count(2), 1);
        Edge.due(x.count(4), 1);
        // 2 times it is even: from house 0 on
        Edge.due(x.lots(1, 2), 3);
        Edge.due(x.undo(1), 1);
        Edge.told(x, x.house(0, 2), 2);
        AbsentPost y = Check.posted("h0015");
        y.errand(0, 5);
        Edge.due(y.lots(20, 2147483646), 24);
        Edge.told(y, y.house(0, 1), 1);
        Edge.due(y.count(1), 20);
        Edge.due(y.count(2), 21);
        Edge.due(y.undo(1), 20);
        Edge.told(y, y.house(0, 1), 33);
        AbsentPost z = Check.posted("i0005");
        z.errand(0, 0);
        Edge.due(z.lots(2, 5), 5);
    }

    private static void lotsRefused() {
        Edge.says(35, "BAD");
        AbsentPost x = Check.posted("h0015");
        Edge.refused(x, () -> x.lots(0, 1), BAD);
        Edge.refused(x, () -> x.lots(21, 1), BAD);
        Edge.refused(x, () -> x.lots(-1, 1), BAD);
        Edge.refused(x, () -> x.lots(MIN_VALUE, 1), BAD);
        Edge.refused(x, () -> x.lots(MAX_VALUE, 1), BAD);
        Edge.refused(x, () -> x.lots(1, 0), BAD);
        Edge.refused(x, () -> x.lots(1, -1), BAD);
        Edge.refused(x, () -> x.lots(1, MIN_VALUE), BAD);
        Edge.refused(x, () -> x.lots(1, MAX_VALUE), BAD);
        Edge.says(35, "STATE: no HOUSES");
        AbsentPost none = new AbsentPost();
        Edge.refused(none, () -> none.lots(1, 1), STATE);
        Edge.refused(none, () -> none.lots(20, 1), STATE);
        Edge.says(35, "FULL: with n more there would be more than 40 DEEDS");
        AbsentPost y = Check.posted("h0015");
        y.lots(20, 1);
        y.errand(0, 1);
        Edge.refused(y, () -> y.lots(20, 1), FULL);
        Edge.due(y.lots(18, 1), 18);
        Edge.refused(y, () -> y.lots(2, 1), FULL);
        Edge.due(y.lots(1, 1), 1);
        Edge.due(y.count(2), 40);
        Edge.refused(y, () -> y.lots(1, 1), FULL);
        Edge.says(35, "(FULL last.)");
        Edge.refused(y, () -> y.lots(0, 1), BAD);
        Edge.refused(y, () -> y.lots(21, 1), BAD);
        Edge.refused(y, () -> y.lots(1, 0), BAD);
        Edge.refused(none, () -> none.lots(0, 0), BAD);
    }
}
