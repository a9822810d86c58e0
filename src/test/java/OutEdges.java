import static java.lang.Integer.MAX_VALUE;
import static java.lang.Integer.MIN_VALUE;

/** Boundary cases of promises 19 to 23: who is out when, at which hour he is where. */
final class OutEdges {
    private static final int BAD = AbsentPost.BAD, STATE = AbsentPost.STATE;
    private static final int NOTHING = Check.NOTHING, BEYOND = Check.BEYOND, UNLIKE = Check.UNLIKE, SIZE = Check.SIZE;

    private OutEdges() {
    }

    static void all() {
        empty();
        hour();
        hourRefused();
        hourInThisOrder();
        brings();
        bringsRefused();
        should();
        shouldNot();
        shouldRefused();
        never();
    }

    private static void empty() {
        Edge.says(19, "HOUSES (bits) that are EMPTY at an HOUR.");
        AbsentPost none = new AbsentPost();
        Edge.due(none.empty(0), 0);
        AbsentPost x = Check.posted("h0010i0010f0010t0010s0010d0000");
        Edge.due(x.empty(0), 1 + 4 + 8 + 32);
        Edge.due(x.empty(1), 4);
        Edge.due(x.empty(11), 0);
        x.errand(0, 11);
        x.errand(1, 11);
        Edge.due(x.empty(11), 3);
        Edge.due(x.empty(10), 32);
        Edge.says(19, "BAD.");
        Edge.refused(x, () -> x.empty(12), BAD);
        Edge.refused(x, () -> x.empty(-1), BAD);
        Edge.refused(x, () -> x.empty(32), BAD);
        Edge.refused(x, () -> x.empty(MIN_VALUE), BAD);
        Edge.refused(none, () -> none.empty(12), BAD);
    }

    private static void hour() {
        Edge.says(20, "The HOUR at which the postman is at place i of a ROUND (12 or more: too late).");
        AbsentPost x = Check.posted("h0010h0010h0010h0010h0010h0010");
        Check.lay(x, 0, 5, 0, 1, 0, 5, 0, 5, 0, 5, 0, 5, 0);
        int[] hours = {5, 10, 11, 12, 17, 22, 27, 32, 37, 42, 47, 52};
        for (int i = 0; i < 12; i++) {
            Edge.due(x.hour(0, i), hours[i]);
        }
        Check.lay(x, 0, 0);
        Edge.due(x.hour(0, 0), 0);
        Check.lay(x, 0, 5, 0, 5, 0, 5, 0, 5, 0, 5, 0, 5, 0);
        Edge.due(x.hour(0, 11), 60);
    }

    private static void hourRefused() {
        AbsentPost x = Check.posted("h0010h0010");
        Check.lay(x, 0, 1, 0);
        Edge.says(20, "BAD: also i below 0");
        Edge.refused(x, () -> x.hour(0, -1), BAD);
        Edge.refused(x, () -> x.hour(0, MIN_VALUE), BAD);
        Edge.refused(x, () -> x.hour(6, 0), BAD);
        Edge.refused(x, () -> x.hour(-1, 0), BAD);
        Edge.says(20, "STATE: no HOUSES");
        AbsentPost none = new AbsentPost();
        none.row(0, 1);
        Edge.refused(none, () -> none.hour(0, 0), STATE);
        Edge.says(20, "NOTHING");
        Edge.found(x, () -> x.hour(5, 0), NOTHING);
        Edge.says(20, "SIZE: more than 12");
        x.row(1, 13);
        Edge.found(x, () -> x.hour(1, 0), SIZE);
        x.row(1, 12);
        Edge.due(x.hour(1, 11), 0);
        Edge.says(20, "UNLIKE: no HOUSE");
        x.lay(1, 11, 2);
        Edge.found(x, () -> x.hour(1, 0), UNLIKE);
        x.lay(1, 11, -1);
        Edge.found(x, () -> x.hour(1, 0), UNLIKE);
        Edge.says(20, "BEYOND: no such place");
        Edge.found(x, () -> x.hour(0, 2), BEYOND);
        Edge.found(x, () -> x.hour(0, MAX_VALUE), BEYOND);
        x.row(2, 0);
        Edge.found(x, () -> x.hour(2, 0), BEYOND);
    }

    private static void hourInThisOrder() {
        Edge.says(20, "(In this order.)");
        AbsentPost x = new AbsentPost();
        Edge.refused(x, () -> x.hour(0, -1), BAD);
        Edge.refused(x, () -> x.hour(6, 0), BAD);
        Edge.refused(x, () -> x.hour(0, 0), STATE);
        AbsentPost y = Check.posted("h0010");
        Edge.refused(y, () -> y.hour(0, -1), BAD);
        Edge.found(y, () -> y.hour(0, 99), NOTHING);
        y.row(0, 13);
        y.lay(0, 0, 9);
        Edge.found(y, () -> y.hour(0, 99), SIZE);
        Check.lay(y, 0, 9);
        Edge.found(y, () -> y.hour(0, 99), UNLIKE);
        Check.lay(y, 0, 0);
        Edge.found(y, () -> y.hour(0, 1), BEYOND);
    }

    private static void brings() {
        Edge.says(21, "How many LETTERS a ROUND brings (aside); HOUSES (bits) that have none due behind it (ahead of the new DAY) by asked().");
        AbsentPost x = Check.posted("h0019h0000h0219h0119");
        Check.lay(x, 0, 0, 1, 2, 3);
        long ahead = x.digest();
        Edge.due(x.brings(0), 18);
        Edge.due(x.asked(), 7);
        Edge.due(x.digest(), ahead);
        Edge.due(x.brings(0), 18);
        x.row(1, 0);
        Edge.due(x.brings(1), 0);
        Edge.due(x.asked(), 2);
        x.row(1, 12);
        Edge.due(x.brings(1), 9);
        Edge.due(x.asked(), 3);
        AbsentPost all = Check.posted("h0010h0010h0010h0010h0010h0010");
        all.row(0, 0);
        Edge.due(all.brings(0), 0);
        Edge.due(all.asked(), 63);
        // aside also while there are forty deeds
        all.lots(20, 1);
        all.lots(20, 1);
        all.row(0, 1);
        Edge.due(all.brings(0) > 0 ? 1 : 0, 1);
        Edge.due(all.count(2), 40);
    }

    private static void bringsRefused() {
        AbsentPost x = Check.posted("h0010h0010");
        Edge.says(21, "BAD");
        Edge.refused(x, () -> x.brings(6), BAD);
        Edge.refused(x, () -> x.brings(-1), BAD);
        Edge.says(21, "STATE");
        AbsentPost none = new AbsentPost();
        none.row(0, 0);
        Edge.refused(none, () -> none.brings(0), STATE);
        Edge.says(21, "NOTHING");
        Edge.found(x, () -> x.brings(0), NOTHING);
        Edge.says(21, "SIZE");
        x.row(0, 13);
        Edge.found(x, () -> x.brings(0), SIZE);
        Edge.says(21, "UNLIKE");
        Check.lay(x, 0, 0, 2);
        Edge.found(x, () -> x.brings(0), UNLIKE);
        Check.lay(x, 0, 0, -1);
        Edge.found(x, () -> x.brings(0), UNLIKE);
        Edge.says(21, "(In this order.)");
        AbsentPost y = new AbsentPost();
        Edge.refused(y, () -> y.brings(6), BAD);
        Edge.refused(y, () -> y.brings(0), STATE);
        y.row(0, 13);
        y.lay(0, 0, 9);
        Edge.refused(y, () -> y.brings(0), STATE);
        x.row(0, 13);
        x.lay(0, 0, 9);
        Edge.found(x, () -> x.brings(0), SIZE);
    }

    private static void should() {
        Edge.says(22, "The HOURS (bits) at which an ERRAND of a HOUSE (where its people are not out) would have a ROUND bring its LETTERS, which it does not now (0: it does, or by none).");
        AbsentPost x = Check.posted("h0101i0001f0901t0111s0001d0101");
        Check.lay(x, 0, 0, 1, 2, 3, 4, 5);
        Edge.due(x.should(0, 0), 1);
        Edge.due(x.should(1, 0), 2);
        Edge.due(x.should(2, 0), 2 + 4 + 8);
        Edge.due(x.should(3, 0), 0);
        Edge.due(x.should(4, 0), 0);
        Edge.due(x.should(5, 0), 0);
        x.errand(3, 2);
        x.errand(5, 4);
        Edge.due(x.should(3, 0), 8);
        Edge.due(x.should(5, 0), 32);
        Check.lay(x, 0, 0, 3, 3, 0, 5);
        // house 0 at hours 0 and 6, house 5 at hour 11
        Edge.due(x.should(0, 0), 1 + 64);
        Edge.due(x.should(5, 0), 0);
        x.errand(5, 10);
        Edge.due(x.should(5, 0), 2048);
        AbsentPost f = Check.posted("h0000f0001h0000f0001h0000f0001");
        Check.lay(f, 0, 5, 0, 1);
        Edge.due(f.should(1, 0), 1024 + 2048);
        AbsentPost t = Check.posted("t0001");
        t.row(0, 1);
        Edge.due(t.should(0, 0), 1);
    }

    private static void shouldNot() {
        Edge.says(22, "(0: it does, or by none)");
        AbsentPost x = Check.posted("h0011f0210i0011h0000h1111h0001");
        Check.lay(x, 0, 0, 1, 2);
        Edge.due(x.should(0, 0), 0);
        // the invalid one's people are out at hour 0 alone, he comes at 2; to houses 4, 5 he does not go
        Edge.due(x.should(2, 0), 4);
        Edge.due(x.should(4, 0), 0);
        Edge.due(x.should(5, 0), 0);
        // none is due at house 3
        Check.lay(x, 0, 3);
        Edge.due(x.should(3, 0), 0);
        // where its people are out no errand is set
        AbsentPost i = Check.posted("i0011");
        i.row(0, 1);
        Edge.due(i.should(0, 0), 0);
        // at hour 12 it is too late
        Check.lay(x, 0, 5, 0, 2);
        Edge.due(x.should(2, 0), 0);
        Check.lay(x, 0, 5, 0, 5, 0, 5, 0, 2);
        Edge.due(x.should(2, 0), 0);
        x.row(0, 0);
        Edge.due(x.should(0, 0), 0);
        // in the rest of the round it does
        AbsentPost y = Check.posted("h0211h0000");
        Check.lay(y, 0, 0, 1, 0);
        Edge.due(y.should(0, 0), 0);
    }

    private static void shouldRefused() {
        AbsentPost x = Check.posted("h0010h0010");
        x.row(0, 1);
        Edge.says(22, "BAD");
        Edge.refused(x, () -> x.should(2, 0), BAD);
        Edge.refused(x, () -> x.should(-1, 0), BAD);
        Edge.refused(x, () -> x.should(MAX_VALUE, 0), BAD);
        Edge.refused(x, () -> x.should(0, 6), BAD);
        Edge.refused(x, () -> x.should(0, -1), BAD);
        Edge.says(22, "STATE");
        // without houses no number is one of a house: BAD comes first
        AbsentPost none = new AbsentPost();
        none.row(0, 0);
        Edge.refused(none, () -> none.should(0, 0), BAD);
        Edge.says(22, "NOTHING");
        Edge.found(x, () -> x.should(0, 5), NOTHING);
        Edge.says(22, "SIZE");
        x.row(0, 13);
        Edge.found(x, () -> x.should(0, 0), SIZE);
        Edge.says(22, "UNLIKE");
        Check.lay(x, 0, 2);
        Edge.found(x, () -> x.should(0, 0), UNLIKE);
        Edge.says(22, "(In this order.)");
        Edge.refused(x, () -> x.should(2, 5), BAD);
        x.row(0, 13);
        x.lay(0, 0, 9);
        Edge.found(x, () -> x.should(0, 0), SIZE);
    }

    private static void never() {
        Edge.says(23, "HOUSES (bits) that are EMPTY at no HOUR from their number on (ahead of that he can't be there).");
        Edge.due(new AbsentPost().never(), 0);
        Edge.due(Check.posted("h0010h0010h0020h0030h0040h0050").never(), 2 + 4 + 8 + 16 + 32);
        Edge.due(Check.posted("h0010h0020h0030h0040h0050h0060").never(), 0);
        Edge.due(Check.posted("h1110h1110h1110h1110h1110h1110").never(), 0);
        Edge.due(Check.posted("h0000i0090s0090f0020t0220d0000").never(), 1 + 2 + 4 + 8 + 16);
        Edge.due(Check.posted("h0000i0090s0090f0110f0320d0000").never(), 1 + 2 + 4 + 8);
        AbsentPost x = Check.posted("i0000i0000s0000");
        x.errand(1, 0);
        x.errand(2, 11);
        Edge.due(x.never(), 7);
        x.errand(1, 1);
        x.errand(0, 0);
        Edge.due(x.never(), 4);
    }
}
