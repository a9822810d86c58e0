/** What the tests share: counting wrong answers, laying texts and rows. */
final class Check {
    static final int NOTHING = 1, BEYOND = 2, UNLIKE = 3, NOUGHT = 4, SIZE = 5;
    private static int wrong = 0;

    private Check() {
    }

    static void due(String what, long got, long want) {
        if (got != want) {
            wrong++;
            System.out.println(what + " answered " + got + ", due is " + want);
        }
    }

    /** A call that answers 1 and tells something by asked(). */
    static void told(String what, AbsentPost x, int answer, int want) {
        due(what, answer, 1);
        due(what + ", asked()", x.asked(), want);
    }

    /** A call that was refused by a finding, the only new one of its kind. */
    static void found(String what, AbsentPost x, int answer, int finding) {
        due(what, answer, AbsentPost.FINDING);
        due(what + ", finding()", x.finding(), finding);
    }

    static void share(String what, AbsentPost x, int answer, long upper, long lower) {
        due(what, answer, 1);
        due(what + ", upper()", x.upper(), upper);
        due(what + ", lower()", x.lower(), lower);
    }

    static void write(AbsentPost x, int t, String signs) {
        due("text of " + signs, x.text(t, signs.length()), signs.length());
        for (int i = 0; i < signs.length(); i++) {
            due("put of " + signs, x.put(t, i, signs.charAt(i)), 1032);
        }
    }

    static void lay(AbsentPost x, int r, int... places) {
        due("row", x.row(r, places.length), places.length);
        for (int i = 0; i < places.length; i++) {
            due("lay", x.lay(r, i, places[i]), 1);
        }
    }

    static AbsentPost posted(String signs) {
        AbsentPost x = new AbsentPost();
        write(x, 0, signs);
        due("post of " + signs, x.post(0), signs.replaceAll("[^a-z]", "").length());
        return x;
    }

    static void end() {
        System.out.println(wrong == 0 ? "all answers are as due" : wrong + " answers are not as due");
        if (wrong != 0) {
            System.exit(1);
        }
    }
}
