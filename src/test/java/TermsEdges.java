import static java.lang.Integer.MAX_VALUE;
import static java.lang.Integer.MIN_VALUE;

/** Boundary cases of the document's Terms. */
final class TermsEdges {
    private static final int BAD = AbsentPost.BAD, FULL = AbsentPost.FULL, STATE = AbsentPost.STATE, NONE = AbsentPost.NONE;
    private static final int NOTHING = Check.NOTHING, BEYOND = Check.BEYOND, UNLIKE = Check.UNLIKE;
    private static final int NOUGHT = Check.NOUGHT, SIZE = Check.SIZE;
    private static final int TERMS = Edge.TERMS;
    private static final int EVEN = 0x555;

    private TermsEdges() {
    }

    static void all() {
        orderOfRefusals();
        refusedChangesNothing();
        findings();
        chances();
        rowsAndTexts();
        language();
        faults();
        kinds();
        whoIsEmpty();
        rounds();
        deeds();
        rain();
        lots();
    }

    // ---- refusals

    private static void orderOfRefusals() {
        Edge.says(TERMS, "Refused is, the first of these that fits, in this order: BAD -1 (a number that is none, or not as told), FULL -2, STATE -4 (not now), SPENT -6 (more than told), FINDING -3");
        Edge.due(AbsentPost.BAD, -1);
        Edge.due(AbsentPost.FULL, -2);
        Edge.due(AbsentPost.STATE, -4);
        Edge.due(AbsentPost.SPENT, -6);
        Edge.due(AbsentPost.FINDING, -3);
        Edge.due(AbsentPost.NONE, -9);
        AbsentPost x = new AbsentPost();
        Edge.refused(x, () -> x.row(6, -1), BAD);
        Edge.refused(x, () -> x.text(4, -1), BAD);
        Edge.refused(x, () -> x.copy(0, 0, 6, 0, -1), BAD);
        Edge.refused(x, () -> x.walk(6), BAD);
        Edge.refused(x, () -> x.keep(3), BAD);
        Edge.refused(x, () -> x.best(6), BAD);
        Edge.refused(x, () -> x.race(3), BAD);
        Edge.refused(x, () -> x.lots(0, 1), BAD);
        Edge.refused(x, () -> x.walk(0), STATE);
        Edge.refused(x, () -> x.brings(0), STATE);
    }

    /** Rows 0 (a round), 1 (too long), 2 (no house 3), 3 (empty); text 1 has a fault; two deeds a day. */
    private static AbsentPost busy() {
        AbsentPost x = Check.posted("h0023f0322t0215");
        Check.write(x, 1, "x");
        Check.lay(x, 0, 0, 1, 2);
        x.row(1, 13);
        Check.lay(x, 2, 0, 3);
        x.row(3, 0);
        x.keep(2);
        x.errand(2, 1);
        x.walk(0);
        x.errand(1, 9);
        x.keep(0);
        x.mid(0, 5);
        x.at(0, 1);
        return x;
    }

    /** What digest() does not tell: deeds, errands ahead of them, what is in kept posts. */
    private static void likeOneLeftAlone(AbsentPost x) {
        AbsentPost y = busy();
        int[] ons = {0, 2, 0};
        int[] undos = {2, 0, 1};
        for (int k = 0; k < 3; k++) {
            Edge.due(x.undo(undos[k]), y.undo(undos[k]));
            Edge.due(x.digest(), y.digest());
            Edge.due(x.on(ons[k]), y.on(ons[k]));
            Edge.due(x.digest(), y.digest());
        }
    }

    private static void refusedChangesNothing() {
        Edge.says(TERMS, "What is refused changes nothing but finding(), findings().");
        refusedRows();
        refusedTexts();
        refusedDeeds();
        refusedRounds();
        refusedShares();
        refusedSights();
        refusedFull();
        refusedWithoutHouses();
    }

    private static void refusedRows() {
        AbsentPost x = busy();
        Edge.refused(x, () -> x.row(6, 1), BAD);
        Edge.refused(x, () -> x.row(0, 41), BAD);
        Edge.found(x, () -> x.row(0, -1), SIZE);
        Edge.refused(x, () -> x.lay(6, 0, 9), BAD);
        Edge.found(x, () -> x.lay(5, 0, 9), NOTHING);
        Edge.found(x, () -> x.lay(0, 3, 9), BEYOND);
        Edge.refused(x, () -> x.at(6, 0), BAD);
        Edge.found(x, () -> x.at(5, 0), NOTHING);
        Edge.found(x, () -> x.at(0, 3), BEYOND);
        Edge.refused(x, () -> x.tear(6), BAD);
        Edge.found(x, () -> x.tear(5), NOTHING);
        Edge.refused(x, () -> x.copy(0, 0, 6, 0, 1), BAD);
        Edge.found(x, () -> x.copy(0, 0, 1, 0, -1), SIZE);
        Edge.found(x, () -> x.copy(0, 0, 5, 0, 1), NOTHING);
        Edge.found(x, () -> x.copy(0, 1, 1, 0, 3), BEYOND);
        Edge.refused(x, () -> x.mean(6), BAD);
        Edge.found(x, () -> x.mean(5), NOTHING);
        Edge.found(x, () -> x.mean(3), NOUGHT);
        likeOneLeftAlone(x);
    }

    private static void refusedTexts() {
        AbsentPost x = busy();
        Edge.refused(x, () -> x.text(4, 1), BAD);
        Edge.refused(x, () -> x.text(0, 61), BAD);
        Edge.found(x, () -> x.text(0, -1), SIZE);
        Edge.refused(x, () -> x.put(4, 0, 65), BAD);
        Edge.found(x, () -> x.put(3, 0, 65), NOTHING);
        Edge.found(x, () -> x.put(0, 15, 65), BEYOND);
        Edge.refused(x, () -> x.fault(4), BAD);
        Edge.found(x, () -> x.fault(3), NOTHING);
        Edge.refused(x, () -> x.post(4), BAD);
        Edge.found(x, () -> x.post(3), NOTHING);
        Edge.refused(x, () -> x.post(1), STATE);
        Edge.refused(x, () -> x.house(3, 0), BAD);
        Edge.refused(x, () -> x.house(0, 5), BAD);
        Edge.refused(x, () -> x.mark(0, 0), BAD);
        Edge.found(x, () -> x.mark(0, 1), UNLIKE);
        Edge.refused(x, () -> x.count(10), BAD);
        Edge.refused(x, () -> x.findings(6), BAD);
        likeOneLeftAlone(x);
    }

    private static void refusedDeeds() {
        AbsentPost x = busy();
        Edge.refused(x, () -> x.errand(3, 0), BAD);
        Edge.refused(x, () -> x.errand(0, 12), BAD);
        Edge.refused(x, () -> x.errand(0, 0), STATE);
        Edge.refused(x, () -> x.walk(6), BAD);
        Edge.found(x, () -> x.walk(5), NOTHING);
        Edge.found(x, () -> x.walk(1), SIZE);
        Edge.found(x, () -> x.walk(2), UNLIKE);
        Edge.refused(x, () -> x.undo(4), BAD);
        Edge.refused(x, () -> x.undo(-1), BAD);
        Edge.refused(x, () -> x.keep(3), BAD);
        Edge.refused(x, () -> x.on(3), BAD);
        Edge.found(x, () -> x.on(1), NOTHING);
        Edge.refused(x, () -> x.lots(0, 1), BAD);
        Edge.refused(x, () -> x.lots(21, 1), BAD);
        Edge.refused(x, () -> x.lots(1, 0), BAD);
        Edge.refused(x, () -> x.race(3), BAD);
        Edge.refused(x, () -> x.best(6), BAD);
        likeOneLeftAlone(x);
    }

    private static void refusedRounds() {
        AbsentPost x = busy();
        Edge.refused(x, () -> x.empty(12), BAD);
        Edge.refused(x, () -> x.hour(0, -1), BAD);
        Edge.found(x, () -> x.hour(5, 0), NOTHING);
        Edge.found(x, () -> x.hour(1, 0), SIZE);
        Edge.found(x, () -> x.hour(2, 0), UNLIKE);
        Edge.found(x, () -> x.hour(0, 3), BEYOND);
        Edge.refused(x, () -> x.brings(6), BAD);
        Edge.found(x, () -> x.brings(5), NOTHING);
        Edge.found(x, () -> x.brings(1), SIZE);
        Edge.found(x, () -> x.brings(2), UNLIKE);
        Edge.refused(x, () -> x.should(3, 0), BAD);
        Edge.refused(x, () -> x.should(0, 6), BAD);
        Edge.found(x, () -> x.should(0, 5), NOTHING);
        Edge.found(x, () -> x.should(0, 1), SIZE);
        Edge.found(x, () -> x.should(0, 2), UNLIKE);
        likeOneLeftAlone(x);
    }

    private static void refusedShares() {
        AbsentPost x = busy();
        Edge.refused(x, () -> x.sack(0, 31), BAD);
        Edge.found(x, () -> x.sack(5, 1), NOTHING);
        Edge.found(x, () -> x.sack(1, 1), SIZE);
        Edge.found(x, () -> x.sack(2, 1), UNLIKE);
        Edge.refused(x, () -> x.mid(0, 13), BAD);
        Edge.found(x, () -> x.mid(5, 1), NOTHING);
        Edge.found(x, () -> x.mid(1, 1), SIZE);
        Edge.found(x, () -> x.mid(2, 1), UNLIKE);
        Edge.refused(x, () -> x.odds(0, 13), BAD);
        Edge.found(x, () -> x.odds(5, 1), NOTHING);
        Edge.found(x, () -> x.odds(1, 1), SIZE);
        Edge.found(x, () -> x.odds(2, 1), UNLIKE);
        likeOneLeftAlone(x);
    }

    private static void refusedSights() {
        AbsentPost x = busy();
        Edge.refused(x, () -> x.kinds(3, 3), BAD);
        Edge.refused(x, () -> x.kinds(0, 6), BAD);
        Edge.found(x, () -> x.kinds(0, 5), NOTHING);
        Edge.found(x, () -> x.kinds(0, 1), SIZE);
        Edge.found(x, () -> x.kinds(0, 2), UNLIKE);
        Edge.refused(x, () -> x.outs(3, 0, 3), BAD);
        Edge.refused(x, () -> x.outs(0, 10, 3), BAD);
        Edge.found(x, () -> x.outs(0, 0, 5), NOTHING);
        Edge.found(x, () -> x.outs(0, 0, 1), SIZE);
        Edge.found(x, () -> x.outs(0, 0, 2), UNLIKE);
        likeOneLeftAlone(x);
    }

    private static void refusedFull() {
        AbsentPost x = Check.posted("h0001h0001");
        x.row(0, 1);
        x.lots(20, 3);
        x.lots(20, 4);
        x.keep(0);
        Edge.refused(x, () -> x.errand(0, 5), FULL);
        Edge.refused(x, () -> x.walk(0), FULL);
        Edge.refused(x, () -> x.lots(1, 1), FULL);
        long ahead = x.digest();
        Edge.due(x.on(0), 40);
        Edge.due(x.digest(), ahead);
    }

    private static void refusedWithoutHouses() {
        AbsentPost x = new AbsentPost();
        x.row(0, 1);
        Edge.refused(x, () -> x.walk(0), STATE);
        Edge.refused(x, () -> x.keep(0), STATE);
        Edge.refused(x, () -> x.hour(0, 0), STATE);
        Edge.refused(x, () -> x.brings(0), STATE);
        Edge.refused(x, () -> x.best(0), STATE);
        Edge.refused(x, x::most, STATE);
        Edge.refused(x, x::soon, STATE);
        Edge.refused(x, x::errands, STATE);
        Edge.refused(x, () -> x.sack(0, 1), STATE);
        Edge.refused(x, () -> x.race(1), STATE);
        Edge.refused(x, () -> x.mid(0, 1), STATE);
        Edge.refused(x, () -> x.odds(0, 1), STATE);
        Edge.refused(x, () -> x.lots(1, 1), STATE);
        Edge.refused(x, () -> x.house(0, 0), BAD);
        Edge.refused(x, () -> x.mark(0, 1), BAD);
        Edge.refused(x, () -> x.errand(0, 0), BAD);
    }

    private static void findings() {
        Edge.says(TERMS, "1 NOTHING (a ROW, a TEXT, a kept POST that is missing)");
        AbsentPost x = new AbsentPost();
        Edge.found(x, () -> x.at(0, 0), 1);
        Edge.found(x, () -> x.fault(0), 1);
        Edge.found(x, () -> x.on(0), 1);
        Edge.says(TERMS, "2 BEYOND (a place of a ROW, a TEXT that there is not)");
        x.row(0, 2);
        x.text(0, 2);
        Edge.found(x, () -> x.at(0, 2), 2);
        Edge.found(x, () -> x.at(0, -1), 2);
        Edge.found(x, () -> x.put(0, 2, 0), 2);
        Edge.found(x, () -> x.put(0, -1, 0), 2);
        Edge.says(TERMS, "3 UNLIKE (a HOUSE of another KIND; a number that is none)");
        AbsentPost y = Check.posted("h0000");
        Edge.found(y, () -> y.mark(0, 1), 3);
        Check.lay(y, 0, 1);
        Edge.found(y, () -> y.brings(0), 3);
        Edge.says(TERMS, "4 NOUGHT (shared among none)");
        y.row(0, 0);
        Edge.found(y, () -> y.mean(0), 4);
        Edge.says(TERMS, "5 SIZE (fewer than none; too many, not as many as due)");
        Edge.found(y, () -> y.row(0, -1), 5);
        y.row(0, 13);
        Edge.found(y, () -> y.brings(0), 5);
        Edge.found(y, () -> y.kinds(0, 0), 5);
    }

    private static void chances() {
        Edge.says(TERMS, "in lowest terms, the lower number above 0 (0 by 1)");
        AbsentPost x = Check.posted("h0016h0216h0216");
        Check.lay(x, 0, 0, 1, 2);
        Edge.share(x, x.mid(0, 3), 9, 1);
        Edge.share(x, x.mid(0, 1), 11, 1);
        Edge.share(x, x.odds(0, 3), 9, 16);
        Edge.share(x, x.odds(0, 1), 121, 144);
        Edge.share(x, x.odds(0, 12), 0, 1);
        Edge.share(x, x.mid(0, 12), 0, 1);
        x.row(0, 0);
        Edge.share(x, x.mid(0, 5), 0, 1);
        Edge.share(x, x.odds(0, 12), 1, 1);
    }

    // ---- rows, texts, the small language

    private static void rowsAndTexts() {
        Edge.says(TERMS, "ROWS 0 .. 5 are rows of 0 to 40 ints");
        AbsentPost x = new AbsentPost();
        for (int r = 0; r <= 5; r++) {
            Edge.due(x.row(r, 40), 40);
            Edge.told(x, x.lay(r, 39, MIN_VALUE + r), 0);
            Edge.told(x, x.lay(r, 0, MAX_VALUE - r), 0);
        }
        for (int r = 0; r <= 5; r++) {
            Edge.told(x, x.at(r, 39), MIN_VALUE + r);
            Edge.told(x, x.at(r, 0), MAX_VALUE - r);
            Edge.due(x.row(r, 0), 0);
        }
        Edge.due(x.count(7), 6);
        Edge.says(TERMS, "TEXTS 0 .. 3 rows of 0 to 60 bytes");
        for (int t = 0; t <= 3; t++) {
            Edge.due(x.text(t, 60), 60);
            Edge.due(x.put(t, 59, 60 + t), 1032);
            Edge.due(x.put(t, 0, -128), 1032);
        }
        for (int t = 0; t <= 3; t++) {
            Edge.due(x.put(t, 59, 0), 1060 + t);
            Edge.due(x.put(t, 0, 0), 872);
            Edge.due(x.text(t, 0), 0);
        }
        Edge.due(x.count(8), 4);
        Edge.says(TERMS, "or missing (at first)");
        AbsentPost y = new AbsentPost();
        for (int k = 0; k <= 5; k++) {
            int r = k;
            Edge.found(y, () -> y.tear(r), NOTHING);
        }
        for (int k = 0; k <= 3; k++) {
            int t = k;
            Edge.found(y, () -> y.put(t, 0, 0), NOTHING);
        }
    }

    private static void language() {
        Edge.says(TERMS, "HOURS are 0 to 11.");
        AbsentPost x = Check.posted("h0000");
        Edge.due(x.errand(0, 0), 1);
        Edge.due(x.errand(0, 11), 2);
        Edge.refused(x, () -> x.errand(0, 12), BAD);
        Edge.refused(x, () -> x.errand(0, -1), BAD);
        Edge.says(TERMS, "A POST (without HOUSES at first)");
        Edge.due(new AbsentPost().count(0), 0);
        Edge.says(TERMS, "blanks (32) ahead, between, behind as many as wanted, none within items");
        Edge.due(faultOf("h0000".concat(" ".repeat(55))), NONE);
        Edge.due(faultOf(" ".repeat(55).concat("h0000")), NONE);
        Edge.due(faultOf("h0000".concat(" ".repeat(50)).concat("h0000")), NONE);
        Edge.due(faultOf("h0000h0000"), NONE);
        Edge.due(faultOf("h0000\th0000"), 5);
        Edge.due(faultOf("h0000\u00a0"), 5);
        Edge.due(faultOf("h0000\0"), 5);
        for (int i = 1; i <= 4; i++) {
            Edge.due(faultOf("h0000".substring(0, i) + " " + "h0000".substring(i)), i);
        }
        Edge.says(TERMS, "items are HOUSES 0, 1, .. (1 to 6; as they stand along the lane)");
        AbsentPost y = Check.posted(" i0000  h0000s0000 d0000t0000f0000 ");
        int[] kinds = {1, 0, 4, 5, 3, 2};
        for (int h = 0; h < 6; h++) {
            Edge.told(y, y.house(h, 0), kinds[h]);
        }
        Edge.due(Check.posted("s0000").count(0), 1);
        Edge.says(TERMS, "the HOUR from which its people are out (two figures, 00 .. 11)");
        for (int hour = 0; hour <= 11; hour++) {
            Edge.due(outOf(String.format("h%02d10", hour)), 1 << hour);
        }
        Edge.says(TERMS, "for how many HOURS (0 .. 9, one figure; behind HOUR 11 not)");
        int[] from0 = {0, 1, 3, 7, 15, 31, 63, 127, 255, 511};
        for (int n = 0; n <= 9; n++) {
            Edge.due(outOf("h00" + n + "0"), from0[n]);
            Edge.due(outOf("h10" + n + "0"), n == 0 ? 0 : n == 1 ? 1024 : 3072);
        }
        Edge.due(outOf("h0390"), 0xFF8);
        Edge.due(outOf("h0490"), 0xFF0);
        Edge.says(TERMS, "LETTERS due (0 .. 9, one figure)");
        for (int n = 0; n <= 9; n++) {
            Edge.due(Check.posted("h000" + n).count(3), n);
        }
    }

    private static int faultOf(String signs) {
        AbsentPost x = new AbsentPost();
        Check.write(x, 2, signs);
        return x.fault(2);
    }

    private static int outOf(String signs) {
        AbsentPost x = Check.posted(signs);
        x.house(0, 1);
        return x.asked();
    }

    private static void faults() {
        Edge.says(TERMS, "A FAULT is the first place at which it can't go on so (a letter, a figure that is none such");
        Edge.due(faultOf("a0000"), 0);
        Edge.due(faultOf("h0000 a0000"), 6);
        Edge.due(faultOf("00000"), 0);
        Edge.due(faultOf("h00000"), 5);
        for (int i = 1; i <= 4; i++) {
            Edge.due(faultOf("h0000".substring(0, i) + "/" + "h0000".substring(i + 1)), i);
            Edge.due(faultOf("h0000".substring(0, i) + ":" + "h0000".substring(i + 1)), i);
            Edge.due(faultOf("h0000".substring(0, i) + "h" + "h0000".substring(i + 1)), i);
        }
        Edge.due(faultOf("h0099:h9999"), 5);
        Edge.says(TERMS, "a figure by which the HOUR would be above 11");
        Edge.due(faultOf("h1190"), NONE);
        Edge.due(faultOf("h1290"), 2);
        Edge.due(faultOf("h1990"), 2);
        Edge.due(faultOf("h2090"), 1);
        Edge.due(faultOf("h9990"), 1);
        Edge.due(faultOf("h0990"), NONE);
        Edge.due(faultOf("h1100 h0900 h1200"), 14);
        Edge.says(TERMS, "a seventh one: its place");
        Edge.due(faultOf("h0000h0000h0000h0000h0000h0000"), NONE);
        Edge.due(faultOf("h0000h0000h0000h0000h0000h0000h0000"), 30);
        Edge.due(faultOf("h0000h0000h0000h0000h0000h0000  h0000"), 32);
        Edge.due(faultOf("h0000h0000h0000h0000h0000h0000 h"), 31);
        Edge.says(TERMS, "the TEXT's size, if its end comes too early, or there are blanks alone)");
        for (int n = 1; n <= 4; n++) {
            Edge.due(faultOf("t1199".substring(0, n)), n);
            Edge.due(faultOf("h0000 " + "t1199".substring(0, n)), 6 + n);
        }
        Edge.due(faultOf(""), 0);
        Edge.due(faultOf(" "), 1);
        Edge.due(faultOf(" ".repeat(60)), 60);
    }

    private static void kinds() {
        Edge.says(TERMS, "0 HOUSE (h, 104), 1 INVALID (i, 105; a HOUSE), 2 FEIGNED (f, 102; a HOUSE), 3 TWIN (t, 116; a HOUSE), 4 SNOWED in (s, 115; an INVALID), 5 DOCTOR (d, 100; a TWIN)");
        int[] letters = {104, 105, 102, 116, 115, 100};
        for (int kind = 0; kind < 6; kind++) {
            AbsentPost x = Check.posted((char) letters[kind] + "0000");
            Edge.told(x, x.house(0, 0), kind);
        }
        for (int sign = -128; sign < 128; sign++) {
            AbsentPost x = new AbsentPost();
            Check.write(x, 0, " 0000");
            x.put(0, 0, sign);
            boolean letter = sign == 104 || sign == 105 || sign == 102 || sign == 116 || sign == 115 || sign == 100;
            // a blank goes, the figure behind it does not
            Edge.due(x.fault(0), letter ? NONE : sign == 32 ? 1 : 0);
        }
    }

    // ---- who is empty

    private static void whoIsEmpty() {
        Edge.says(TERMS, "At an HOUR a HOUSE is EMPTY, if its people are out then");
        Edge.due(emptyBy("h1190"), 2048);
        Edge.due(emptyBy("h0000"), 0);
        Edge.due(emptyBy("h0010", 11), 2049);
        Edge.says(TERMS, "an INVALID one only at HOURS of ERRANDS");
        Edge.due(emptyBy("i0090"), 0);
        Edge.due(emptyBy("i0090", 9, 11), 512 + 2048);
        Edge.due(emptyBy("i1190", 0), 1);
        Edge.says(TERMS, "a SNOWED one never");
        Edge.due(emptyBy("s0090"), 0);
        Edge.due(emptyBy("s0090", 9, 10, 11), 0);
        Edge.says(TERMS, "a FEIGNED one also in the HOUR ahead of each such, and in the one behind (it seems so)");
        Edge.due(emptyBy("f0010"), 3);
        Edge.due(emptyBy("f1110"), 3072);
        Edge.due(emptyBy("f0000"), 0);
        Edge.due(emptyBy("f0510"), 16 + 32 + 64);
        Edge.due(emptyBy("f0010", 11), 3 + 3072);
        Edge.due(emptyBy("f0010", 2), 15);
        Edge.says(TERMS, "a TWIN one (DOCTOR, too) only if they are out in the HOUR ahead, too (at HOUR 0: whatever was ahead)");
        Edge.due(emptyBy("t0010"), 1);
        Edge.due(emptyBy("t0020"), 3);
        Edge.due(emptyBy("t0110"), 0);
        Edge.due(emptyBy("t0110", 0), 3);
        Edge.due(emptyBy("t1110", 0), 1);
        Edge.due(emptyBy("t1090"), 2048);
        Edge.due(emptyBy("d0110"), EVEN);
        Edge.due(emptyBy("d0020"), EVEN + 2);
        Edge.due(emptyBy("d1090"), EVEN + 2048);
        Edge.says(TERMS, "a DOCTOR one at each even HOUR besides");
        Edge.due(emptyBy("d0000"), EVEN);
        Edge.due(emptyBy("d1110"), EVEN);
        Edge.says(TERMS, "and at those of its ERRANDS");
        AbsentPost x = Check.posted("h0000h0000");
        x.errand(0, 11);
        Edge.told(x, x.house(0, 1), 2048);
        Edge.told(x, x.house(1, 1), 0);
    }

    /** Of house 1, a house of its own at each side: the hours at which it is empty, by these errands. */
    private static int emptyBy(String signs, int... errands) {
        AbsentPost x = Check.posted("h0090" + signs + "h0390");
        for (int hour : errands) {
            x.errand(1, hour);
        }
        return Edge.emptyOf(x, 1);
    }

    // ---- rounds and deeds

    private static void rounds() {
        Edge.says(TERMS, "A ROUND is a row of HOUSES (0 to 12; perhaps some twice, others not)");
        AbsentPost x = Check.posted("h0093h0094h0095");
        x.row(0, 0);
        Edge.due(x.brings(0), 0);
        x.row(0, 12);
        Edge.due(x.brings(0), 3);
        x.lay(0, 11, 2);
        Edge.due(x.brings(0), 8);
        x.row(0, 13);
        Edge.found(x, () -> x.brings(0), SIZE);
        Check.lay(x, 0, 1, 1, 1);
        Edge.due(x.brings(0), 4);
        Edge.says(TERMS, "the postman is at HOUSE 0 at HOUR 0");
        Check.lay(x, 0, 0);
        Edge.due(x.hour(0, 0), 0);
        Edge.says(TERMS, "It takes him an HOUR to each HOUSE on along the lane, either way (none, if he is there)");
        Check.lay(x, 0, 2, 2, 1, 0, 0, 2);
        int[] hours = {2, 2, 3, 4, 4, 6};
        for (int i = 0; i < hours.length; i++) {
            Edge.due(x.hour(0, i), hours[i]);
        }
        Edge.says(TERMS, "there he brings all LETTERS due, if it is EMPTY at that HOUR (if not, they stay due)");
        AbsentPost y = Check.posted("h0000h0219");
        Check.lay(y, 0, 1, 0);
        Edge.due(y.brings(0), 0);
        Edge.due(y.asked(), 1);
        Check.lay(y, 0, 1, 1, 0, 1);
        Edge.due(y.brings(0), 0);
        Check.lay(y, 0, 0, 0, 1);
        Edge.due(y.brings(0), 0);
        y.errand(1, 1);
        Edge.due(y.brings(0), 9);
        Edge.due(y.asked(), 3);
        Edge.says(TERMS, "Behind HOUR 11 he brings nothing any more.");
        AbsentPost z = Check.posted("d0007h0000h1195h0000h0000d0004");
        Check.lay(z, 0, 5, 1, 3, 2);
        Edge.due(z.hour(0, 3), 12);
        // house 5 at hour 5 is not empty, house 2 at hour 12 is too late
        Edge.due(z.brings(0), 0);
        Check.lay(z, 0, 5, 2, 5, 2);
        Edge.due(z.hour(0, 2), 11);
        Edge.due(z.brings(0), 0);
        Check.lay(z, 0, 5, 1, 3, 3, 0);
        Edge.due(z.hour(0, 2), 11);
        Edge.due(z.hour(0, 4), 14);
        // the doctor is empty at even hours, but 14 is none of them any more
        Edge.due(z.brings(0), 0);
        Check.lay(z, 0, 5, 0);
        Edge.due(z.brings(0), 7);
        AbsentPost late = Check.posted("h0000h0000h0093h0000h0000h0000");
        Check.lay(late, 0, 5, 0, 5, 0, 5, 0, 2);
        Edge.due(late.hour(0, 6), 32);
        // 32 is no hour 0 of an int's bits
        Edge.due(late.brings(0), 0);
        Edge.due(late.walk(0), 0);
        Check.lay(late, 0, 2);
        Edge.due(late.brings(0), 4);
    }

    private static void deeds() {
        Edge.says(TERMS, "a ROUND is walked (then a new DAY begins: each HOUSE that is not SNOWED in has a LETTER more due, 99 at most), an ERRAND is set");
        AbsentPost x = Check.posted("h0009i0009f0009t0009s0009d0009");
        x.row(0, 0);
        for (int day = 1; day <= 40; day++) {
            Edge.due(x.walk(0), 0);
            Edge.due(x.count(1), day);
        }
        for (int h = 0; h < 6; h++) {
            Edge.told(x, x.house(h, 2), h == 4 ? 9 : 49);
        }
        // no run of calls comes to 99: 9, by 40 days 49, by 30 days aside 79
        Edge.due(x.sack(0, 30), 5 * 79 + 9);
        Edge.says(TERMS, "These are DEEDS 0, 1, .. (40 at most).");
        Edge.due(x.count(2), 40);
        Edge.refused(x, () -> x.walk(0), FULL);
        Edge.refused(x, () -> x.errand(0, 5), FULL);
        Edge.due(x.undo(39), 1);
        Edge.due(x.errand(0, 5), 1);
        Edge.due(x.count(2), 40);
        Edge.refused(x, () -> x.walk(0), FULL);
        Edge.says(TERMS, "ERRANDS are for this DAY alone.");
        AbsentPost y = Check.posted("h0005");
        Check.lay(y, 0);
        y.errand(0, 0);
        Edge.told(y, y.house(0, 1), 1);
        y.walk(0);
        Edge.told(y, y.house(0, 1), 0);
        Edge.due(y.errand(0, 0), 1);
        y.undo(2);
        Edge.told(y, y.house(0, 1), 0);
        y.undo(1);
        Edge.told(y, y.house(0, 1), 1);
    }

    // ---- rain, lots

    private static void rain() {
        Edge.says(TERMS, "By RAIN: a HOUSE is EMPTY at no HOUR of this DAY, by p of 12, each by itself.");
        AbsentPost x = Check.posted("d0001d0001");
        Check.lay(x, 0, 0, 1, 1, 0, 0, 1);
        // house 0 is met at hours 0 and 2, both times in the same rain; house 1 at 1 and 3, never empty
        Edge.share(x, x.mid(0, 6), 1, 2);
        Edge.share(x, x.odds(0, 6), 1, 2);
        AbsentPost y = Check.posted("h0091h0091h0091h0091h0091h0091");
        Check.lay(y, 0, 0, 1, 2, 3, 4, 5, 4, 3, 2, 1, 0, 0);
        Edge.share(y, y.odds(0, 11), 1, 2985984);
        Edge.share(y, y.odds(0, 1), 1771561, 2985984);
        Edge.share(y, y.mid(0, 11), 1, 2);
        Edge.share(y, y.mid(0, 1), 11, 2);
    }

    private static void lots() {
        Edge.says(TERMS, "LOTS: a number comes from the one ahead by 48271 times it modulo 2147483647, the first from a seed (1 .. 2147483646).");
        // 48271 modulo 6 is 1, 182605794 modulo 6 is 0, 1291394886 modulo 6 is 0
        AbsentPost x = Check.posted("h0091h0092h0093h0094h0095h0096");
        Edge.due(x.lots(1, 1), 20);
        x.undo(0);
        Edge.due(x.lots(2, 1), 20 + 1 + 1 + 5);
        x.undo(0);
        Edge.due(x.lots(3, 1), 27 + 6);
        x.undo(0);
        // 2147483646 is -1 modulo the prime: 2147435376, modulo 6 it is 0
        Edge.due(x.lots(1, 2147483646), 21);
        Edge.refused(x, () -> x.lots(1, 0), BAD);
        Edge.refused(x, () -> x.lots(1, 2147483647), BAD);
        Edge.refused(x, () -> x.lots(1, -1), BAD);
    }
}
