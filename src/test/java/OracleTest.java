import java.util.Random;

/** Many runs of as many calls by lot as an object is used for, each compared with what Oracle answers. */
public final class OracleTest {
    private static final int RUNS = 3000, CALLS = 512;
    private static final int[] ODD = {Integer.MIN_VALUE, -1, 40, 41, 60, 61, 1000, Integer.MAX_VALUE - 1, Integer.MAX_VALUE};
    private final Random lot;
    private final AbsentPost x = new AbsentPost();
    private final Oracle o = new Oracle();
    private final int run;
    /** Of a hundred: in some runs a post goes on for long, in others new ones are written often. */
    private final int writes;
    private int calls;

    private OracleTest(int run) {
        this.run = run;
        lot = new Random(run);
        writes = lot.nextInt(4);
    }

    public static void main(String[] args) {
        for (int run = 0; run < RUNS; run++) {
            OracleTest t = new OracleTest(run);
            for (int k = 0; t.calls < CALLS; k++) {
                t.call(k);
            }
        }
        Check.end();
    }

    /** 0 to most, seldom one that is wrong. */
    private int some(int most) {
        int dice = lot.nextInt(60);
        return dice == 0 ? ODD[lot.nextInt(ODD.length)] : dice == 1 ? most + 1 : lot.nextInt(most + 1);
    }

    private int aRow() {
        return lot.nextInt(3) > 0 ? 0 : some(5);
    }

    private int aText() {
        return lot.nextInt(3) > 0 ? 0 : some(3);
    }

    private int aHouse() {
        return lot.nextInt(15) == 0 ? some(6) : lot.nextInt(Math.max(1, o.now.houses.size()));
    }

    private void same(String what, long got, long want) {
        calls++;
        if (calls <= CALLS) {
            Check.due("run " + run + ", call " + calls + ": " + what, got, want);
        }
    }

    private void write() {
        int t = aText();
        StringBuilder b = new StringBuilder();
        int items = 1 + lot.nextInt(lot.nextInt(8) == 0 ? 8 : 6);
        for (int k = 0; k < items; k++) {
            b.append(" ".repeat(lot.nextInt(4) == 0 ? lot.nextInt(5) : 0));
            b.append("hiftsd".charAt(lot.nextInt(6))).append(String.format("%02d", lot.nextInt(12)));
            b.append(lot.nextInt(10)).append(lot.nextInt(3) == 0 ? 0 : lot.nextInt(10));
        }
        b.append(" ".repeat(lot.nextInt(3) == 0 ? lot.nextInt(5) : 0));
        if (lot.nextInt(4) == 0) {
            b.setCharAt(lot.nextInt(b.length()), " 019:/hx\u00e9".charAt(lot.nextInt(9)));
        }
        if (lot.nextInt(6) == 0) {
            b.setLength(lot.nextInt(b.length() + 1));
        }
        same("text", x.text(t, b.length()), o.text(t, b.length()));
        for (int i = 0; i < b.length(); i++) {
            same("put", x.put(t, i, b.charAt(i)), o.put(t, i, b.charAt(i)));
        }
        same("fault of " + b, x.fault(t), o.fault(t));
        same("post of " + b, x.post(t), o.post(t));
    }

    private void layRound() {
        int r = aRow();
        int n = lot.nextInt(lot.nextInt(10) == 0 ? 16 : 13);
        same("row", x.row(r, n), o.row(r, n));
        for (int i = 0; i < n; i++) {
            int v = lot.nextInt(100) == 0 ? some(6) : lot.nextInt(Math.max(1, o.now.houses.size()));
            same("lay", x.lay(r, i, v), o.lay(r, i, v));
        }
    }

    private void laySights() {
        int r = aRow();
        int n = lot.nextInt(10) == 0 ? lot.nextInt(9) : 2 * lot.nextInt(4);
        same("row", x.row(r, n), o.row(r, n));
        boolean true0 = lot.nextBoolean();
        int h = aHouse();
        for (int i = 0; i < n; i++) {
            int v = i % 2 == 0 ? lot.nextInt(12) : lot.nextInt(2);
            if (i % 2 == 1 && true0 && r >= 0 && r < 6 && h >= 0 && h < o.now.houses.size()) {
                v = o.now.houses.get(h).empty(o.rows[r][i - 1]) ? 1 : 0;
            }
            v = lot.nextInt(60) == 0 ? some(12) : v;
            same("lay", x.lay(r, i, v), o.lay(r, i, v));
        }
        int a = some(9);
        same("kinds", x.kinds(h, r), o.kinds(h, r));
        same("outs", x.outs(h, a, r), o.outs(h, a, r));
    }

    private void rowsCall() {
        int r = aRow(), q = aRow(), i = some(8), j = some(8), n = some(6), v = lot.nextInt();
        switch (lot.nextInt(8)) {
            case 0: same("row", x.row(r, n), o.row(r, n)); break;
            case 1: same("lay", x.lay(r, i, v), o.lay(r, i, v)); break;
            case 2: same("at", x.at(r, i), o.at(r, i)); break;
            case 3: if (lot.nextInt(4) == 0) same("tear", x.tear(r), o.tear(r)); break;
            case 4: same("copy", x.copy(r, i, q, j, n), o.copy(r, i, q, j, n)); break;
            case 5: same("mean", x.mean(r), o.mean(r)); break;
            case 6: same("put", x.put(aTextSame(), i, v), o.put(textSame, i, v)); break;
            default: same("fault", x.fault(aTextSame()), o.fault(textSame)); break;
        }
    }

    private int textSame;

    private int aTextSame() {
        textSame = aText();
        return textSame;
    }

    /** Mostly one of the last, so that there come to be many. */
    private int aDeed() {
        int deeds = o.now.past.size();
        return lot.nextInt(3) == 0 ? some(deeds + 1) : deeds - lot.nextInt(3);
    }

    private void deedCall() {
        int r = aRow(), h = aHouse(), t = some(11), k = some(2), n = aDeed();
        int s = lot.nextInt() & (lot.nextInt(10) == 0 ? -1 : Integer.MAX_VALUE);
        int days = 1 + lot.nextInt(lot.nextInt(3) == 0 ? 21 : 3);
        switch (lot.nextInt(9)) {
            case 0: case 1: case 2: same("errand", x.errand(h, t), o.errand(h, t)); break;
            case 3: case 4: same("walk", x.walk(r), o.walk(r)); break;
            case 5: same("undo", x.undo(n), o.undo(n)); break;
            case 6: same("keep", x.keep(k), o.keep(k)); break;
            case 7: same("on", x.on(k), o.on(k)); break;
            default: same("lots", x.lots(days, s), o.lots(days, s)); break;
        }
    }

    private void askCall() {
        int r = aRow(), h = aHouse(), t = some(11), p = some(12), n = some(12);
        switch (lot.nextInt(12)) {
            case 0: same("empty", x.empty(t), o.empty(t)); break;
            case 1: same("hour", x.hour(r, n), o.hour(r, n)); break;
            case 2: same("brings", x.brings(r), o.brings(r)); break;
            case 3: same("should", x.should(h, r), o.should(h, r)); break;
            case 4: same("never", x.never(), o.never()); break;
            case 5: same("errands", x.errands(), o.errands()); break;
            case 6: same("feigned", x.feigned(), o.feigned()); break;
            case 7: n = some(30); same("sack", x.sack(r, n), o.sack(r, n)); break;
            case 8: same("mid", x.mid(r, p), o.mid(r, p)); break;
            case 9: same("odds", x.odds(r, p), o.odds(r, p)); break;
            case 10: n = some(4); same("house", x.house(h, n), o.house(h, n)); break;
            default: n = some(5); same("mark", x.mark(h, n), o.mark(h, n)); break;
        }
    }

    /** The dear ones. */
    private void searchCall() {
        int r = aRow(), n = some(2);
        switch (lot.nextInt(4)) {
            case 0: same("best", x.best(r), o.best(r)); break;
            case 1: same("most", x.most(), o.most()); break;
            case 2: same("soon", x.soon(), o.soon()); break;
            default: same("race", x.race(n), o.race(n)); break;
        }
    }

    private void call(int k) {
        int dice = lot.nextInt(100);
        // in one run of eight there may be no houses for long
        if (dice < writes || run % 8 > 0 && o.now.houses.isEmpty()) {
            write();
        } else if (dice < 15 || k < 3) {
            layRound();
        } else if (dice < 20) {
            laySights();
        } else if (dice < 30) {
            rowsCall();
        } else if (dice < 55) {
            deedCall();
        } else if (dice < 96) {
            askCall();
        } else {
            searchCall();
        }
        same("digest", x.digest(), o.digest());
        same("asked", x.asked(), o.asked);
        tellCall();
    }

    private void tellCall() {
        int f = some(6), c = some(9);
        switch (lot.nextInt(5)) {
            case 0: same("upper", x.upper(), o.upper.longValueExact()); break;
            case 1: same("lower", x.lower(), o.lower.longValueExact()); break;
            case 2: same("finding", x.finding(), o.finding); break;
            case 3: same("findings", x.findings(f), o.findings(f)); break;
            default: same("count", x.count(c), o.count(c)); break;
        }
    }
}
