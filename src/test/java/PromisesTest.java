/** Each promise by its number: ordinary inputs, the edges that the document names, wrong inputs. */
public final class PromisesTest {
    private static final int BAD = AbsentPost.BAD, FULL = AbsentPost.FULL, STATE = AbsentPost.STATE, NONE = AbsentPost.NONE;
    private static final int MIN = Integer.MIN_VALUE, MAX = Integer.MAX_VALUE;
    private static final int NOTHING = Check.NOTHING, BEYOND = Check.BEYOND, UNLIKE = Check.UNLIKE;
    private static final int NOUGHT = Check.NOUGHT, SIZE = Check.SIZE;
    /** House 0 out at 0, 1; an invalid; a feigned one out at 3, 4; a twin out at 2 .. 5; a snowed one; a doctor out at 7. */
    private static final String LANE = "h0023 i0512f0323 t0245s0097d0712";

    public static void main(String[] args) {
        rowsTextsPosts();
        deeds();
        whoIsOut();
        bestRounds();
        whoFeigned();
        sackAndWag();
        rainAndLots();
        whatIsTold();
        Check.end();
    }

    private static void rowsTextsPosts() {
        p1();
        p2();
        p3and4();
        p5();
        p6();
        p7();
        p8and9();
        p10();
        p11();
        p12();
        p13();
    }

    private static void deeds() {
        p14();
        p15();
        p16();
        p17and18();
    }

    private static void whoIsOut() {
        p19();
        p20();
        p21();
        p22();
        p23();
    }

    private static void bestRounds() {
        p24();
        p25();
        p26();
        p27();
    }

    private static void whoFeigned() {
        p28();
        p29();
        p30();
    }

    private static void sackAndWag() {
        p31();
        p32();
    }

    private static void rainAndLots() {
        p33();
        p34();
        p35();
    }

    private static void whatIsTold() {
        p36();
        p37and38();
        p39();
        p40and41();
        p42();
    }

    private static void p1() {
        AbsentPost x = new AbsentPost();
        for (int what = 0; what <= 9; what++) {
            Check.due("1: count(" + what + ")", x.count(what), 0);
        }
        Check.due("1: asked", x.asked(), 0);
        Check.due("1: upper", x.upper(), 0);
        Check.due("1: lower", x.lower(), 1);
        Check.due("1: finding", x.finding(), 0);
        Check.due("1: empty", x.empty(0), 0);
        Check.due("1: never", x.never(), 0);
        Check.due("1: feigned", x.feigned(), 0);
        for (int r = 0; r < 6; r++) {
            Check.found("1: row " + r, x, x.at(r, 0), NOTHING);
        }
        for (int t = 0; t < 4; t++) {
            Check.found("1: text " + t, x, x.fault(t), NOTHING);
        }
    }

    private static void p2() {
        AbsentPost x = new AbsentPost();
        Check.due("2: none", x.row(0, 0), 0);
        Check.due("2: most", x.row(5, 40), 40);
        Check.due("2: above", x.row(5, 41), BAD);
        Check.due("2: far above", x.row(5, MAX), BAD);
        Check.due("2: no row", x.row(6, 1), BAD);
        Check.due("2: no row", x.row(-1, 1), BAD);
        Check.due("2: BAD ahead of SIZE", x.row(6, -1), BAD);
        Check.due("2: no finding", x.finding(), 0);
        Check.found("2: fewer than none", x, x.row(0, -1), SIZE);
        Check.found("2: fewer than none", x, x.row(0, MIN), SIZE);
        Check.lay(x, 0, 7, 8);
        Check.due("2: anew", x.row(0, 3), 3);
        for (int i = 0; i < 3; i++) {
            Check.told("2: anew", x, x.at(0, i), 0);
        }
        Check.found("2: anew, its end", x, x.at(0, 3), BEYOND);
    }

    private static void p3and4() {
        AbsentPost x = new AbsentPost();
        x.row(2, 2);
        Check.told("3: first", x, x.lay(2, 1, MIN), 0);
        Check.told("3: again", x, x.lay(2, 1, 5), MIN);
        Check.told("4: at", x, x.at(2, 1), 5);
        Check.told("4: other place", x, x.at(2, 0), 0);
        x.at(2, 1);
        Check.due("3: no row", x.lay(6, 0, 0), BAD);
        Check.due("4: no row", x.at(-1, 0), BAD);
        Check.found("3: missing", x, x.lay(1, -1, 0), NOTHING);
        Check.found("3: beyond", x, x.lay(2, 2, 0), BEYOND);
        Check.found("3: ahead", x, x.lay(2, -1, 0), BEYOND);
        Check.found("4: missing", x, x.at(1, 5), NOTHING);
        Check.found("4: beyond", x, x.at(2, 2), BEYOND);
        Check.found("4: ahead", x, x.at(2, MIN), BEYOND);
        Check.due("4: a refusal leaves asked", x.asked(), 5);
    }

    private static void p5() {
        AbsentPost x = new AbsentPost();
        Check.found("5: missing", x, x.tear(0), NOTHING);
        x.row(0, 3);
        Check.due("5: torn", x.tear(0), 1);
        Check.found("5: torn", x, x.at(0, 0), NOTHING);
        Check.due("5: none left", x.count(7), 0);
        x.row(0, 0);
        Check.due("5: one of no ints", x.tear(0), 1);
        Check.due("5: no row", x.tear(6), BAD);
        Check.due("5: no row", x.tear(-1), BAD);
    }

    private static void p6() {
        AbsentPost x = new AbsentPost();
        Check.lay(x, 0, 1, 2, 3, 4, 5);
        Check.lay(x, 1, 9, 9, 9);
        Check.due("6: to another", x.copy(0, 2, 1, 1, 2), 1);
        Check.told("6: place 0", x, x.at(1, 0), 9);
        Check.told("6: place 1", x, x.at(1, 1), 3);
        Check.told("6: place 2", x, x.at(1, 2), 4);
        Check.due("6: forth within", x.copy(0, 0, 0, 1, 4), 1);
        Check.told("6: forth, place 1", x, x.at(0, 1), 1);
        Check.told("6: forth, place 4", x, x.at(0, 4), 4);
        Check.due("6: back within", x.copy(0, 1, 0, 0, 4), 1);
        Check.told("6: back, place 0", x, x.at(0, 0), 1);
        Check.told("6: back, place 3", x, x.at(0, 3), 4);
        Check.due("6: none at the ends", x.copy(0, 5, 1, 3, 0), 1);
        x.row(2, 0);
        Check.due("6: none of none", x.copy(2, 0, 2, 0, 0), 1);
        Check.due("6: no row", x.copy(6, 0, 0, 0, -1), BAD);
        Check.due("6: no row", x.copy(0, 0, -1, 0, -1), BAD);
        Check.found("6: fewer than none", x, x.copy(0, 0, 4, 0, -1), SIZE);
        Check.found("6: missing", x, x.copy(0, 9, 4, 0, 1), NOTHING);
        Check.found("6: missing", x, x.copy(4, 0, 0, 9, 1), NOTHING);
        Check.found("6: behind", x, x.copy(0, 4, 1, 0, 2), BEYOND);
        Check.found("6: behind", x, x.copy(0, 0, 1, 2, 2), BEYOND);
        Check.found("6: ahead", x, x.copy(0, -1, 1, 0, 1), BEYOND);
        Check.found("6: ahead", x, x.copy(0, 0, 1, MIN, 0), BEYOND);
        Check.found("6: behind, none", x, x.copy(0, 6, 1, 0, 0), BEYOND);
        Check.found("6: far behind", x, x.copy(0, MAX, 1, 0, MAX), BEYOND);
    }

    private static void p7() {
        AbsentPost x = new AbsentPost();
        Check.found("7: missing", x, x.mean(0), NOTHING);
        x.row(0, 0);
        Check.found("7: none", x, x.mean(0), NOUGHT);
        Check.lay(x, 0, 3, 4);
        Check.told("7: cut", x, x.mean(0), 3);
        Check.lay(x, 0, -3, -4);
        Check.told("7: cut below 0", x, x.mean(0), -3);
        Check.lay(x, 0, MAX, MAX, MAX);
        Check.told("7: large", x, x.mean(0), MAX);
        Check.due("7: no row", x.mean(6), BAD);
    }

    private static void p8and9() {
        AbsentPost x = new AbsentPost();
        Check.due("8: most", x.text(3, 60), 60);
        Check.due("8: none", x.text(0, 0), 0);
        Check.due("8: above", x.text(0, 61), BAD);
        Check.due("8: no text", x.text(4, -1), BAD);
        Check.found("8: fewer than none", x, x.text(0, -1), SIZE);
        Check.due("9: a blank", x.put(3, 59, 200), 1032);
        Check.due("9: cut to a byte", x.put(3, 59, 256 + 65), 944);
        Check.due("9: cut to a byte", x.put(3, 59, -1), 1065);
        Check.due("9: below 0", x.put(3, 59, 0), 999);
        Check.due("9: no text", x.put(4, 0, 0), BAD);
        Check.due("9: no text", x.put(-1, 0, 0), BAD);
        Check.found("9: missing", x, x.put(1, -1, 0), NOTHING);
        Check.found("9: beyond", x, x.put(0, 0, 0), BEYOND);
        Check.found("9: ahead", x, x.put(3, -1, 0), BEYOND);
        Check.due("8: anew", x.text(3, 60), 60);
        Check.due("8: anew, blanks", x.put(3, 59, 0), 1032);
    }

    private static int faultOf(String signs) {
        AbsentPost x = new AbsentPost();
        Check.write(x, 1, signs);
        return x.fault(1);
    }

    private static void p10() {
        String[] right = {"h0000", "  d1199  ", LANE, "i0512i0512i0512i0512i0512i0512  ", "s0999   f1000"};
        for (String signs : right) {
            Check.due("10: " + signs, faultOf(signs), NONE);
        }
        Check.due("10: nothing", faultOf(""), 0);
        Check.due("10: blanks alone", faultOf("    "), 4);
        Check.due("10: no letter", faultOf(" x0000"), 1);
        Check.due("10: a capital", faultOf("H0000"), 0);
        Check.due("10: a figure first", faultOf("h00000"), 5);
        Check.due("10: no figure", faultOf("h0:00"), 2);
        Check.due("10: no figure", faultOf("h00/0"), 3);
        Check.due("10: no figure", faultOf("h000x"), 4);
        Check.due("10: a blank within", faultOf("h 000"), 1);
        Check.due("10: a blank within", faultOf("h000 "), 4);
        Check.due("10: hour 12", faultOf("h1200"), 2);
        Check.due("10: hour 20", faultOf("h2000"), 1);
        Check.due("10: hour 20, the end", faultOf("h2"), 1);
        Check.due("10: the end within", faultOf("h0000 t112"), 10);
        Check.due("10: a letter alone", faultOf("h"), 1);
        Check.due("10: a seventh", faultOf("i0512i0512i0512i0512i0512i0512 i0512"), 31);
        Check.due("10: the first of some", faultOf("h0000 x h9999"), 6);
        AbsentPost x = new AbsentPost();
        Check.due("10: no text", x.fault(4), BAD);
        Check.due("10: no text", x.fault(-1), BAD);
        Check.found("10: missing", x, x.fault(0), NOTHING);
        Check.write(x, 0, "h0000");
        x.put(0, 0, 104 - 256);
        Check.due("10: a letter, cut", x.fault(0), NONE);
        x.put(0, 0, 232);
        Check.due("10: a byte below 0", x.fault(0), 0);
    }

    private static void p11() {
        AbsentPost x = Check.posted(LANE);
        Check.lay(x, 0, 0, 1, 2, 3);
        x.errand(1, 1);
        x.walk(0);
        x.errand(1, 1);
        x.keep(1);
        Check.write(x, 1, "h0011 x");
        Check.write(x, 2, " i0013");
        long ahead = x.digest();
        Check.due("11: no text", x.post(4), BAD);
        Check.found("11: missing", x, x.post(3), NOTHING);
        Check.due("11: a fault", x.post(1), STATE);
        Check.due("11: refused, nothing changed", x.digest(), ahead);
        x.text(1, 0);
        Check.due("11: an empty text", x.post(1), STATE);
        Check.due("11: anew", x.post(2), 1);
        Check.due("11: DAY 0", x.count(1), 0);
        Check.due("11: no deeds", x.count(2), 0);
        Check.due("11: letters due", x.count(3), 3);
        Check.due("11: letters brought", x.count(4), 0);
        Check.due("11: kept posts go", x.count(9), 0);
        Check.found("11: kept posts go", x, x.on(1), NOTHING);
        Check.told("11: no errands", x, x.house(0, 3), 0);
        Check.due("11: the same once more", x.post(0), 6);
        Check.told("11: no errands", x, x.house(1, 1), 32);
    }

    private static void p12() {
        AbsentPost x = Check.posted(LANE);
        int[] outs = {3, 32, 24, 60, 511, 128};
        int[] dues = {3, 2, 3, 5, 7, 2};
        int[] empties = {3, 0, 60, 56, 0, 0x555};
        int[] kinds = {0, 1, 2, 3, 4, 5};
        for (int h = 0; h < 6; h++) {
            Check.told("12: kind", x, x.house(h, 0), kinds[h]);
            Check.told("12: out", x, x.house(h, 1), outs[h]);
            Check.told("12: due", x, x.house(h, 2), dues[h]);
            Check.told("12: empty", x, x.house(h, 3), empties[h]);
            Check.told("12: brought", x, x.house(h, 4), 0);
        }
        x.errand(1, 9);
        Check.told("12: out by an errand", x, x.house(1, 1), 32 + 512);
        Check.told("12: empty by an errand", x, x.house(1, 3), 512);
        Check.lay(x, 0, 0, 0, 3);
        x.walk(0);
        Check.told("12: brought", x, x.house(3, 4), 5);
        Check.told("12: due on the new day", x, x.house(3, 2), 1);
        Check.due("12: no house", x.house(6, 0), BAD);
        Check.due("12: no house", x.house(-1, 0), BAD);
        Check.due("12: no what", x.house(0, 5), BAD);
        Check.due("12: no what", x.house(0, -1), BAD);
        Check.due("12: no houses", new AbsentPost().house(0, 0), BAD);
        x = Check.posted("f0011 f1120 t0021 d0491");
        Check.told("12: feigned at the start", x, x.house(0, 3), 3);
        Check.told("12: hours behind 11 not", x, x.house(1, 1), 2048);
        Check.told("12: feigned at the end", x, x.house(1, 3), 3072);
        Check.told("12: twins at hour 0", x, x.house(2, 3), 3);
        Check.told("12: a doctor at odd hours", x, x.house(3, 3), 0x555 | 0xAA0);
    }

    private static void p13() {
        AbsentPost x = Check.posted("s0003 i0512f0323 t0245s0097d0712");
        Check.due("13: invalid", x.mark(1, 1), 8);
        Check.due("13: snowed as invalid, at the end", x.mark(0, 1), 5);
        Check.due("13: snowed as invalid", x.mark(4, 1), 14);
        Check.due("13: feigned", x.mark(2, 2), 2);
        Check.due("13: twin", x.mark(3, 3), 1);
        Check.due("13: doctor as twin", x.mark(5, 3), 1);
        Check.due("13: snowed", x.mark(4, 4), 92);
        Check.due("13: doctor", x.mark(5, 5), 1);
        Check.found("13: an invalid is not snowed", x, x.mark(1, 4), UNLIKE);
        Check.found("13: a twin is no doctor", x, x.mark(3, 5), UNLIKE);
        Check.found("13: a feigned one is no invalid", x, x.mark(2, 1), UNLIKE);
        Check.due("13: kind 0", x.mark(0, 0), BAD);
        Check.due("13: no kind", x.mark(0, 6), BAD);
        Check.due("13: no kind", x.mark(0, -1), BAD);
        Check.due("13: no house", x.mark(6, 1), BAD);
        Check.write(x, 1, "h0003 i0002");
        x.post(1);
        Check.due("13: no house behind it any more", x.mark(1, 1), 5);
        x = Check.posted("d0090");
        Check.due("13: a doctor's first", x.mark(0, 5), 9);
        x.errand(0, 9);
        Check.due("13: a doctor's first", x.mark(0, 5), 11);
        x.errand(0, 11);
        Check.due("13: hour 10 is missing", x.mark(0, 5), 11);
        x.errand(0, 10);
        Check.due("13: none", x.mark(0, 5), NONE);
    }

    private static void p14() {
        AbsentPost x = Check.posted(LANE);
        Check.due("14: invalid", x.errand(1, 4), 1);
        Check.due("14: invalid, told", x.errand(1, 5), STATE);
        Check.due("14: out by an errand", x.errand(1, 4), STATE);
        Check.due("14: twins", x.errand(3, 1), 4);
        Check.due("14: feigned", x.errand(2, 9), 7);
        Check.due("14: snowed", x.errand(4, 10), 0);
        Check.due("14: doctor", x.errand(5, 6), 7);
        Check.due("14: no house", x.errand(6, 0), BAD);
        Check.due("14: no hour", x.errand(0, 12), BAD);
        Check.due("14: no hour", x.errand(0, -1), BAD);
        Check.due("14: no houses", new AbsentPost().errand(0, 0), BAD);
        Check.due("14: deeds", x.count(2), 5);
        x.lots(20, 1);
        x.lots(14, 1);
        Check.due("14: the fortieth", x.errand(0, 5), 3);
        Check.due("14: STATE ahead of FULL", x.errand(0, 5), STATE);
        Check.due("14: full", x.errand(0, 6), FULL);
        Check.due("14: deeds", x.count(2), 40);
    }

    private static void p15() {
        AbsentPost x = new AbsentPost();
        Check.due("15: no row", x.walk(6), BAD);
        Check.due("15: no houses", x.walk(0), STATE);
        x = Check.posted(LANE);
        Check.found("15: missing", x, x.walk(0), NOTHING);
        Check.lay(x, 0, 0, 0, 0, 0, 0, 0, 0, 0, 0, 0, 0, 0, 9);
        Check.found("15: more than 12", x, x.walk(0), SIZE);
        Check.lay(x, 0, 0, 6);
        Check.found("15: no house", x, x.walk(0), UNLIKE);
        Check.lay(x, 0, 0, -1);
        Check.found("15: no house", x, x.walk(0), UNLIKE);
        Check.due("15: refused, nothing done", x.count(2), 0);
        Check.lay(x, 0, 0, 2, 3, 2, 0);
        x.errand(1, 7);
        Check.due("15: brought", x.walk(0), 11);
        Check.due("15: the day", x.count(1), 1);
        Check.due("15: due: a letter more but for the snowed one", x.count(3), 22 - 11 + 5);
        Check.told("15: snowed", x, x.house(4, 2), 7);
        Check.told("15: errands are for a day", x, x.house(1, 3), 0);
        Check.due("15: brought till now", x.count(4), 11);
        Check.lay(x, 0);
        Check.due("15: a round of none", x.walk(0), 0);
        Check.due("15: the day", x.count(1), 2);
        p15late();
    }

    private static void p15late() {
        AbsentPost x = Check.posted("h0993 h1094");
        Check.lay(x, 0, 0, 1, 0, 1, 0, 1, 0, 1, 0, 1, 0, 1);
        Check.due("15: at hours 10 and 11", x.walk(0), 7);
        x = Check.posted("f0000 h0005 h0000 h1111");
        Check.lay(x, 0, 3, 0, 3, 1, 3);
        Check.due("15: at hour 11, 13", x.walk(0), 0);
        Check.lay(x, 0, 3, 0, 3, 2, 3);
        Check.due("15: at hour 11", x.walk(0), 2);
        for (int k = 2; k < 40; k++) {
            Check.due("15: the others", x.walk(0), 1);
        }
        Check.due("15: full", x.walk(0), FULL);
        Check.lay(x, 0, 4);
        Check.found("15: FULL last", x, x.walk(0), UNLIKE);
        Check.told("15: letters", x, x.house(1, 2), 45);
    }

    private static void p16() {
        AbsentPost x = new AbsentPost();
        Check.due("16: none on a new object", x.undo(0), 0);
        Check.due("16: no such place on a new object", x.undo(1), BAD);
        Check.due("16: no such place on a new object", x.undo(-1), BAD);
        x = Check.posted(LANE);
        Check.due("16: no deeds", x.undo(0), 0);
        Check.due("16: no such place", x.undo(1), BAD);
        long[] ahead = new long[6];
        Check.lay(x, 0, 0, 1, 2, 3, 4, 5);
        ahead[0] = x.digest();
        x.errand(1, 1);
        ahead[1] = x.digest();
        x.walk(0);
        ahead[2] = x.digest();
        x.errand(3, 0);
        ahead[3] = x.digest();
        x.lots(1, 77);
        ahead[4] = x.digest();
        x.walk(0);
        ahead[5] = x.digest();
        Check.due("16: beyond the end", x.undo(6), BAD);
        Check.due("16: below 0", x.undo(-1), BAD);
        Check.due("16: far off", x.undo(Integer.MAX_VALUE), BAD);
        Check.due("16: far off", x.undo(Integer.MIN_VALUE), BAD);
        Check.due("16: none behind the last", x.undo(5), 0);
        Check.due("16: nothing changes", x.digest(), ahead[5]);
        Check.due("16: the last", x.undo(4), 1);
        Check.due("16: as it was", x.digest(), ahead[4]);
        Check.due("16: two", x.undo(2), 2);
        Check.due("16: as it was", x.digest(), ahead[2]);
        Check.due("16: a walk", x.undo(1), 1);
        Check.due("16: the errand is back", x.digest(), ahead[1]);
        Check.due("16: all", x.undo(0), 1);
        Check.due("16: as it was", x.digest(), ahead[0]);
        Check.lay(x, 0, 5, 4, 3, 2, 1, 0, 5, 0, 1, 2, 3, 5);
        x.walk(0);
        long one = x.digest();
        x.errand(0, 11);
        Check.due("16: a long round stays", x.undo(1), 1);
        Check.due("16: a long round stays", x.digest(), one);
        x = Check.posted("h0093 h0094");
        Check.lay(x, 0, 1);
        x.walk(0);
        one = x.digest();
        x.walk(0);
        x.undo(1);
        Check.due("16: a short round stays", x.digest(), one);
        x.errand(1, 11);
        one = x.digest();
        Check.due("16: today's errand stays", x.undo(2), 0);
        Check.due("16: today's errand stays", x.digest(), one);
        x = Check.posted("h0093 h0094");
        for (int k = 0; k < 40; k++) {
            x.lots(1, k + 1);
        }
        Check.due("16: 40 deeds", x.count(2), 40);
        one = x.digest();
        Check.due("16: none behind 40", x.undo(40), 0);
        Check.due("16: all 40 stay", x.digest(), one);
        Check.due("16: more than 40", x.undo(41), BAD);
        Check.due("16: all 40", x.undo(0), 40);
        Check.due("16: none is left", x.undo(0), 0);
    }

    private static void p17and18() {
        AbsentPost x = new AbsentPost();
        Check.due("17: no houses", x.keep(0), STATE);
        Check.due("17: no place", x.keep(3), BAD);
        Check.due("17: no place", x.keep(-1), BAD);
        Check.due("18: no place", x.on(3), BAD);
        Check.found("18: missing", x, x.on(0), NOTHING);
        x = Check.posted(LANE);
        Check.lay(x, 0, 0, 2, 3);
        x.errand(1, 3);
        Check.due("17: kept", x.keep(2), 1);
        long ahead = x.digest();
        Check.due("17: how many", x.count(9), 1);
        x.walk(0);
        Check.due("17: kept", x.keep(0), 2);
        x.walk(0);
        Check.due("18: as it was", x.on(2), 1);
        Check.due("18: how many stay", x.count(9), 2);
        Check.told("18: errands", x, x.house(1, 3), 8);
        Check.due("18: letters", x.count(3), 22);
        x.undo(0);
        Check.due("18: gone on aside", x.on(0), 2);
        Check.due("18: the day", x.count(1), 1);
        Check.due("18: deeds can be undone", x.undo(1), 1);
        Check.told("18: errands", x, x.house(1, 3), 8);
        Check.due("18: again", x.on(2), 1);
        Check.due("17: over it", x.keep(0), 1);
        x.walk(0);
        Check.due("18: over it", x.on(0), 1);
        Check.due("18: what it was", x.digest() == ahead ? 1 : 0, 0);
        Check.due("18: letters", x.count(3), 22);
    }

    private static void p19() {
        AbsentPost x = Check.posted(LANE);
        int[] want = {33, 1, 36, 12, 44, 12, 32, 0, 32, 0, 32, 0};
        for (int hour = 0; hour < 12; hour++) {
            Check.due("19: empty at " + hour, x.empty(hour), want[hour]);
        }
        x.errand(1, 11);
        Check.due("19: by an errand", x.empty(11), 2);
        Check.due("19: no hour", x.empty(12), BAD);
        Check.due("19: no hour", x.empty(-1), BAD);
    }

    private static void p20() {
        AbsentPost x = new AbsentPost();
        Check.due("20: below 0", x.hour(0, -1), BAD);
        Check.due("20: no row", x.hour(6, 0), BAD);
        Check.due("20: no houses", x.hour(0, 0), STATE);
        x = Check.posted(LANE);
        Check.found("20: missing", x, x.hour(0, 99), NOTHING);
        Check.lay(x, 0, 3, 3, 0, 5, 1);
        int[] want = {3, 3, 6, 11, 15};
        for (int i = 0; i < 5; i++) {
            Check.due("20: place " + i, x.hour(0, i), want[i]);
        }
        Check.found("20: beyond", x, x.hour(0, 5), BEYOND);
        Check.found("20: beyond", x, x.hour(0, MAX), BEYOND);
        x.lay(0, 4, 6);
        Check.found("20: UNLIKE ahead of BEYOND", x, x.hour(0, 5), UNLIKE);
        x.row(0, 13);
        Check.found("20: more than 12", x, x.hour(0, 13), SIZE);
    }

    private static void p21() {
        AbsentPost x = new AbsentPost();
        Check.due("21: no row", x.brings(-1), BAD);
        Check.due("21: no houses", x.brings(0), STATE);
        x = Check.posted("h0023 h0010 f0323 t0245");
        Check.found("21: missing", x, x.brings(0), NOTHING);
        Check.lay(x, 0, 0, 2, 3);
        long ahead = x.digest();
        Check.due("21: brought", x.brings(0), 11);
        Check.due("21: none due", x.asked(), 15);
        Check.due("21: aside", x.digest(), ahead);
        Check.lay(x, 0, 3, 2, 1, 0);
        Check.due("21: back", x.brings(0), 8);
        Check.due("21: none due", x.asked(), 14);
        x.errand(0, 6);
        Check.due("21: by an errand", x.brings(0), 11);
        Check.due("21: none due", x.asked(), 15);
        Check.lay(x, 0, 4);
        Check.found("21: no house", x, x.brings(0), UNLIKE);
        Check.due("21: refused", x.asked(), 0);
        x.row(0, 13);
        Check.found("21: more than 12", x, x.brings(0), SIZE);
    }

    private static void p22() {
        AbsentPost x = new AbsentPost();
        Check.due("22: no houses", x.should(0, 0), BAD);
        x = Check.posted("h0502 i0302 f1102 t0212 s0002 d0111");
        Check.found("22: missing", x, x.should(0, 0), NOTHING);
        Check.lay(x, 0, 0, 1, 2, 3, 4, 5);
        Check.due("22: a house", x.should(0, 0), 1);
        Check.due("22: an invalid", x.should(1, 0), 2);
        Check.due("22: a feigned one, out ahead, then, behind", x.should(2, 0), 2 + 4 + 8);
        Check.due("22: twins, out ahead", x.should(3, 0), 8);
        Check.due("22: a snowed one", x.should(4, 0), 0);
        Check.due("22: a doctor wants two", x.should(5, 0), 0);
        x.errand(3, 3);
        Check.due("22: it does", x.should(3, 0), 0);
        Check.lay(x, 0, 5, 0, 1);
        Check.due("22: by two visits", x.should(0, 0), 1 << 10);
        Check.due("22: no visit", x.should(2, 0), 0);
        Check.lay(x, 0, 5, 0, 5, 0, 1);
        Check.due("22: too late is left out", x.should(0, 0), 1 << 10);
        Check.due("22: too late", x.should(1, 0), 0);
        Check.due("22: no house", x.should(6, 0), BAD);
        Check.due("22: no row", x.should(0, 6), BAD);
        x.lay(0, 0, 7);
        Check.found("22: no house", x, x.should(0, 0), UNLIKE);
        x.row(0, 13);
        Check.found("22: more than 12", x, x.should(0, 0), SIZE);
        x = Check.posted("h0500");
        x.row(0, 1);
        Check.due("22: none due", x.should(0, 0), 0);
    }

    private static void p23() {
        AbsentPost x = Check.posted("h0001 h0011 h0021 h0041 s0091 i0001");
        Check.due("23: ahead of the number", x.never(), 1 + 2 + 4 + 16 + 32);
        x.errand(5, 4);
        Check.due("23: an errand too early", x.never(), 1 + 2 + 4 + 16 + 32);
        x.errand(5, 5);
        x.errand(0, 0);
        Check.due("23: errands", x.never(), 2 + 4 + 16);
    }

    private static void expectRow(String what, AbsentPost x, int r, int... places) {
        for (int i = 0; i < places.length; i++) {
            Check.told(what, x, x.at(r, i), places[i]);
        }
        Check.found(what + ", its size", x, x.at(r, places.length), BEYOND);
    }

    private static void p24() {
        AbsentPost x = new AbsentPost();
        Check.due("24: no row", x.best(6), BAD);
        Check.due("24: no houses", x.best(0), STATE);
        x = Check.posted(LANE);
        Check.due("24: best", x.best(1), 11);
        expectRow("24: the first by its houses", x, 1, 0, 1, 2, 3);
        x = Check.posted("h0094 h0010 h1195");
        x.row(2, 40);
        Check.due("24: a shorter one ahead", x.best(2), 4);
        expectRow("24: a shorter one ahead", x, 2, 0);
        x = Check.posted("h0521 h0111 h0213 h0095");
        Check.due("24: back at the end", x.best(0), 10);
        expectRow("24: back at the end", x, 0, 1, 2, 3, 0);
        x = Check.posted("s0095 h0090 i0005");
        Check.due("24: none", x.best(0), 0);
        expectRow("24: none", x, 0);
        x.errand(2, 4);
        Check.due("24: by an errand", x.best(0), 5);
        expectRow("24: by an errand", x, 0, 1, 0, 2);
    }

    private static void p25() {
        AbsentPost x = new AbsentPost();
        Check.due("25: no houses", x.most(), STATE);
        x = Check.posted(LANE);
        Check.due("25: most", x.most(), 3);
        Check.due("25: in how many ways", x.asked(), 54);
        x = Check.posted("h0091 h0090 h0099");
        Check.due("25: houses, not letters", x.most(), 2);
        Check.due("25: 02 20 012 021 102 120 201 210", x.asked(), 8);
        x = Check.posted("s0095 h0090");
        Check.due("25: none", x.most(), 0);
        Check.due("25: all of them", x.asked(), 5);
    }

    private static void p26() {
        AbsentPost x = new AbsentPost();
        Check.due("26: no houses", x.soon(), STATE);
        x = Check.posted(LANE);
        Check.due("26: soon", x.soon(), 3);
        x = Check.posted("h0094 h0090 h0293 h0090");
        Check.due("26: two to house 2", x.soon(), 2);
        x = Check.posted("h0514 h0213");
        Check.due("26: out and back is no later than 2, so none", x.soon(), 0);
        x = Check.posted("h0094 h0990");
        Check.due("26: at hour 0", x.soon(), 0);
        x = Check.posted("h0214 h0001 h0090");
        Check.due("26: back at hour 2, or more", x.soon(), 2);
    }

    private static void p27() {
        AbsentPost x = new AbsentPost();
        Check.due("27: no houses", x.errands(), STATE);
        x = Check.posted(LANE);
        Check.due("27: a snowed one with letters", x.errands(), NONE);
        x = Check.posted("h0502 i0302 f1102 t0602 s0000 d0111");
        Check.due("27: 1, 1, 1, 2, none, 2", x.errands(), 7);
        x.errand(3, 2);
        Check.due("27: fewer by one", x.errands(), 6);
        x = Check.posted("h0093 i0111");
        Check.due("27: an invalid one that is out then", x.errands(), NONE);
        x = Check.posted("t0502 d0112 d0111 d0193");
        Check.due("27: twins at hour 0 want one; a doctor at an odd hour is out then, wants the one ahead", x.errands(), 2);
        x = Check.posted("h0091 h0091 s0000");
        Check.due("27: none wanted", x.errands(), 0);
    }

    private static void p28() {
        AbsentPost x = new AbsentPost();
        Check.due("28: no houses", x.kinds(0, 0), BAD);
        x = Check.posted(LANE);
        Check.found("28: missing", x, x.kinds(0, 0), NOTHING);
        Check.lay(x, 0);
        Check.due("28: nothing seen", x.kinds(0, 0), 63);
        Check.lay(x, 0, 4, 1, 5, 1, 3, 1);
        Check.due("28: out at 2 .. 5", x.kinds(3, 0), 1 + 4 + 8 + 32);
        Check.lay(x, 0, 2, 0, 1, 0);
        Check.due("28: not in the first hour", x.kinds(3, 0), 2 + 8 + 16);
        Check.lay(x, 0, 2, 0, 2, 1);
        Check.due("28: at odds", x.kinds(3, 0), 0);
        x.errand(1, 8);
        Check.lay(x, 0, 8, 1);
        Check.due("28: with errands", x.kinds(1, 0), 1 + 2 + 4 + 32);
        Check.due("28: no house", x.kinds(6, 0), BAD);
        Check.due("28: no row", x.kinds(0, 6), BAD);
        Check.lay(x, 0, 12, 1, 0);
        Check.found("28: SIZE ahead of UNLIKE", x, x.kinds(0, 0), SIZE);
        Check.lay(x, 0, 0, 0, 12, 1);
        Check.found("28: no hour", x, x.kinds(0, 0), UNLIKE);
        Check.lay(x, 0, 0, 2);
        Check.found("28: neither 1 nor 0", x, x.kinds(0, 0), UNLIKE);
        Check.lay(x, 0, 0, -1);
        Check.found("28: neither 1 nor 0", x, x.kinds(0, 0), UNLIKE);
    }

    private static void p29() {
        AbsentPost x = Check.posted(LANE);
        Check.found("29: missing", x, x.outs(0, 0, 0), NOTHING);
        Check.lay(x, 0, 4, 1, 5, 1, 3, 1);
        Check.due("29: a house, 3 hours", x.outs(0, 3, 0), 8);
        Check.due("29: a house, 9 hours", x.outs(0, 9, 0), 15);
        Check.due("29: a feigned one", x.outs(2, 3, 0), 28);
        Check.due("29: twins", x.outs(3, 9, 0), 7);
        Check.due("29: none", x.outs(0, 0, 0), 0);
        Check.lay(x, 0, 11, 1);
        Check.due("29: behind hour 11", x.outs(0, 9, 0), 0xFF8);
        Check.lay(x, 0, 7, 0);
        x.errand(1, 7);
        Check.due("29: without errands", x.outs(1, 3, 0), 4095);
        Check.due("29: no n", x.outs(0, 10, 0), BAD);
        Check.due("29: no n", x.outs(0, -1, 0), BAD);
        Check.due("29: no house", x.outs(6, 0, 0), BAD);
        Check.due("29: no row", x.outs(0, 0, 6), BAD);
        Check.lay(x, 0, 12);
        Check.found("29: not by pairs", x, x.outs(0, 0, 0), SIZE);
        Check.lay(x, 0, -1, 0);
        Check.found("29: no hour", x, x.outs(0, 0, 0), UNLIKE);
    }

    private static void p30() {
        AbsentPost x = Check.posted("h0041 f0001 f0091 t0041 i0041 d0091");
        Check.due("30: feigned, doctor at 10", x.feigned(), 4 + 32);
        x.errand(1, 0);
        x.errand(4, 9);
        Check.due("30: by an errand", x.feigned(), 2 + 4 + 32);
        x.errand(5, 10);
        Check.due("30: the doctor is out at all even hours", x.feigned(), 2 + 4);
    }

    private static void p31() {
        AbsentPost x = new AbsentPost();
        Check.due("31: no houses", x.sack(0, 0), STATE);
        Check.due("31: too many days", x.sack(0, 31), BAD);
        Check.due("31: below 0", x.sack(0, -1), BAD);
        x = Check.posted(LANE);
        Check.found("31: missing", x, x.sack(0, 0), NOTHING);
        Check.lay(x, 0, 0, 2, 3, 5, 1, 2);
        long ahead = x.digest();
        Check.due("31: no days", x.sack(0, 0), 22);
        Check.due("31: a day", x.sack(0, 1), 16);
        Check.due("31: thirty days", x.sack(0, 30), 74);
        Check.due("31: aside", x.digest(), ahead);
        x.errand(1, 9);
        Check.due("31: an errand on the first day", x.sack(0, 1), 14);
        Check.due("31: not on the second", x.sack(0, 2), 16);
        Check.due("31: the errand stands", x.sack(0, 2), 16);
        Check.lay(x, 0, 6);
        Check.found("31: no house", x, x.sack(0, 0), UNLIKE);
        x.row(0, 13);
        Check.found("31: more than 12", x, x.sack(0, 0), SIZE);
    }

    private static void p32() {
        AbsentPost x = new AbsentPost();
        Check.due("32: no houses", x.race(0), STATE);
        Check.due("32: too many", x.race(3), BAD);
        Check.due("32: below 0", x.race(-1), BAD);
        x = Check.posted(LANE);
        Check.due("32: no turns", x.race(0), 0);
        Check.due("32: one", x.race(1), 5);
        Check.due("32: two", x.race(2), 6);
        x = Check.posted("h0091 h0094 h0093");
        Check.due("32: the wag has the best of the others stay in", x.race(2), 5);
        x = Check.posted("h0095");
        Check.due("32: alone", x.race(2), 5);
        x = Check.posted("h0111 h0119");
        Check.due("32: one of both", x.race(2), 9);
        x = Check.posted("h0101 h0109");
        Check.due("32: none is out", x.race(2), 0);
        x.errand(1, 1);
        Check.due("32: errands", x.race(2), 9);
    }

    private static void p33() {
        AbsentPost x = new AbsentPost();
        Check.due("33: no houses", x.mid(0, 0), STATE);
        Check.due("33: no p", x.mid(0, 13), BAD);
        Check.due("33: no p", x.mid(0, -1), BAD);
        x = Check.posted(LANE);
        Check.found("33: missing", x, x.mid(0, 0), NOTHING);
        Check.lay(x, 0, 0, 2, 3, 5, 1, 2);
        Check.share("33: dry", x, x.mid(0, 0), 11, 1);
        Check.share("33: 5", x, x.mid(0, 5), 77, 12);
        Check.share("33: 6", x, x.mid(0, 6), 11, 2);
        Check.share("33: wet", x, x.mid(0, 12), 0, 1);
        Check.lay(x, 0, 6);
        Check.found("33: no house", x, x.mid(0, 0), UNLIKE);
        x.row(0, 13);
        Check.found("33: more than 12", x, x.mid(0, 0), SIZE);
    }

    private static void p34() {
        AbsentPost x = new AbsentPost();
        Check.due("34: no houses", x.odds(0, 0), STATE);
        Check.due("34: no p", x.odds(0, 13), BAD);
        Check.due("34: no p", x.odds(0, -1), BAD);
        x = Check.posted("h0023 h0090 f0323 t0245");
        Check.found("34: missing", x, x.odds(0, 0), NOTHING);
        Check.lay(x, 0, 0, 1, 2, 3, 2);
        Check.share("34: three with letters", x, x.odds(0, 5), 343, 1728);
        Check.share("34: a half", x, x.odds(0, 6), 1, 8);
        Check.share("34: dry", x, x.odds(0, 0), 1, 1);
        Check.share("34: wet", x, x.odds(0, 12), 0, 1);
        Check.lay(x, 0, 1);
        Check.share("34: without letters", x, x.odds(0, 12), 1, 1);
        Check.lay(x, 0, 4);
        Check.found("34: no house", x, x.odds(0, 0), UNLIKE);
        x.row(0, 13);
        Check.found("34: more than 12", x, x.odds(0, 0), SIZE);
    }

    private static void p35() {
        AbsentPost x = new AbsentPost();
        Check.due("35: no houses", x.lots(1, 1), STATE);
        Check.due("35: no days", x.lots(0, 1), BAD);
        Check.due("35: too many", x.lots(21, 1), BAD);
        Check.due("35: no seed", x.lots(1, 0), BAD);
        Check.due("35: no seed", x.lots(1, MAX), BAD);
        Check.due("35: no seed", x.lots(1, MIN), BAD);
        // 48271 is 1 modulo 2, 48271 squared modulo 2147483647 is 182605794: 0 modulo 2
        x = Check.posted("h0091 h0093");
        Check.due("35: house 1, then both", x.lots(2, 1), 3 + 2 + 1);
        Check.due("35: days", x.count(1), 2);
        Check.due("35: deeds", x.count(2), 2);
        Check.due("35: due", x.count(3), 2);
        // the last seed is -1 modulo the prime, so its number is 2147483647 - 48271
        Check.due("35: the last seed: both", x.lots(1, MAX - 1), 2);
        Check.due("35: undone", x.undo(2), 1);
        x.lots(20, 5);
        Check.due("35: too many deeds", x.lots(19, 5), FULL);
        Check.due("35: BAD ahead of FULL", x.lots(21, 5), BAD);
        Check.due("35: as many as there may be", x.lots(18, 5) >= 0 ? 1 : 0, 1);
        Check.due("35: forty deeds", x.count(2), 40);
        Check.due("35: full", x.lots(1, 5), FULL);
    }

    private static void p36() {
        AbsentPost x = Check.posted(LANE);
        Check.due("36: before", x.asked(), 0);
        x.row(0, 2);
        x.lay(0, 0, 9);
        x.lay(0, 0, 8);
        Check.due("36: lay", x.asked(), 9);
        x.at(0, 0);
        Check.due("36: at", x.asked(), 8);
        x.mean(0);
        Check.due("36: mean", x.asked(), 4);
        x.house(2, 3);
        Check.due("36: house", x.asked(), 60);
        x.row(0, 1);
        x.brings(0);
        Check.due("36: brings", x.asked(), 1);
        x.most();
        Check.due("36: most", x.asked(), 54);
        x.best(1);
        x.soon();
        x.mark(1, 1);
        x.mid(0, 3);
        x.digest();
        x.house(9, 9);
        x.walk(0);
        Check.due("36: others, refused ones tell nothing", x.asked(), 54);
    }

    private static void p37and38() {
        AbsentPost x = Check.posted(LANE);
        x.row(0, 1);
        Check.share("37: mid", x, x.mid(0, 4), 2, 1);
        x.odds(0, 13);
        x.walk(0);
        Check.due("37: it stays", x.upper(), 2);
        Check.share("38: odds", x, x.odds(0, 4), 2, 3);
    }

    private static void p39() {
        AbsentPost x = Check.posted("s0093 i0111 t0002 d0114 h0021 i0000");
        Check.lay(x, 3, 0, 1, 2, 3, 4);
        x.walk(3);
        x.errand(0, 11);
        x.keep(0);
        x.keep(2);
        x.text(2, 0);
        x.row(0, 0);
        x.row(5, 5);
        int[] want = {6, 1, 2, 3 + 2 + 3 + 5 + 2 + 1, 0, 3, 2, 3, 2, 2};
        for (int what = 0; what <= 9; what++) {
            Check.due("39: " + what, x.count(what), want[what]);
        }
        x.errand(2, 2);
        x.errand(2, 1);
        x.errand(4, 4);
        x.walk(3);
        Check.due("39: brought", x.count(4), 3 + 2);
        Check.due("39: the day", x.count(1), 2);
        Check.due("39: no what", x.count(10), BAD);
        Check.due("39: no what", x.count(-1), BAD);
    }

    private static void p40and41() {
        AbsentPost x = new AbsentPost();
        for (int f = 1; f <= 5; f++) {
            Check.due("41: before", x.findings(f), 0);
        }
        x.at(9, 9);
        Check.due("40: BAD is none", x.finding(), 0);
        x.tear(0);
        x.tear(0);
        Check.due("40: nothing", x.finding(), 1);
        x.row(0, 0);
        x.at(0, 0);
        Check.due("40: beyond", x.finding(), 2);
        x.mean(0);
        Check.due("40: nought", x.finding(), 4);
        x.row(0, -1);
        Check.due("40: size", x.finding(), 5);
        x.row(0, 1);
        x.walk(0);
        Check.due("40: what is right, STATE leave it", x.finding(), 5);
        int[] want = {2, 1, 0, 1, 1};
        for (int f = 1; f <= 5; f++) {
            Check.due("41: " + f, x.findings(f), want[f - 1]);
        }
        Check.due("41: none", x.findings(0), BAD);
        Check.due("41: none", x.findings(6), BAD);
        Check.due("41: none", x.findings(MIN), BAD);
    }

    private static long folded(long... values) {
        long h = 17;
        for (long v : values) {
            h = 31 * h + v;
        }
        return h;
    }

    private static void p42() {
        AbsentPost x = new AbsentPost();
        long none = folded(0, 0, 0, 0, 0, 0, 0, 0, 0, 0, -1, -1, -1, -1, -1, -1, -1, -1, -1, -1, -1, -1, -1);
        Check.due("42: new", x.digest(), none);
        x.at(0, 0);
        Check.due("42: findings are not in it", x.digest(), none);
        Check.write(x, 3, "i0012");
        x.put(3, 0, 105);
        x.post(3);
        x.errand(0, 1);
        x.keep(1);
        x.errand(0, 2);
        Check.lay(x, 4, -7, 8);
        x.row(2, 0);
        Check.due("42: all", x.digest(), folded(1, 0, 2, 2, 0, 1, 0, 2, 1, 1, 1, 7, 2, 6, 0, -1, 1, -1,
            -1, -1, 0, -1, 2, -7, 8, -1, -1, -1, -1, 5, 105, 48, 48, 49, 50));
        x.text(3, 1);
        x.put(3, 0, 200);
        Check.due("42: a byte below 0", x.digest(), folded(1, 0, 2, 2, 0, 1, 0, 2, 1, 1, 1, 7, 2, 6, 0, -1, 1, -1,
            -1, -1, 0, -1, 2, -7, 8, -1, -1, -1, -1, 1, -56));
    }
}
