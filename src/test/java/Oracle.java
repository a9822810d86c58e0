import java.math.BigInteger;
import java.util.ArrayList;
import java.util.Arrays;
import java.util.HashSet;
import java.util.List;
import java.util.Set;
import java.util.TreeSet;
import java.util.regex.Matcher;
import java.util.regex.Pattern;

/** The document once more, slowly and by other means (sets, snapshots, trying all), to compare with. */
final class Oracle {
    static final int BAD = -1, FULL = -2, FINDING = -3, STATE = -4, NONE = -9;
    static final Pattern TEXT = Pattern.compile("( *[hiftsd](0[0-9]|1[01])[0-9][0-9]){1,6} *");

    static final class House {
        int kind, due, brought;
        TreeSet<Integer> told = new TreeSet<>();
        TreeSet<Integer> errands = new TreeSet<>();

        House twin() {
            House c = new House();
            c.kind = kind;
            c.due = due;
            c.brought = brought;
            c.told.addAll(told);
            c.errands.addAll(errands);
            return c;
        }

        boolean out(int hour) {
            return told.contains(hour) || errands.contains(hour);
        }

        boolean empty(int hour) {
            switch (kind) {
                case 0: return out(hour);
                case 1: return errands.contains(hour);
                case 2: return out(hour) || out(hour - 1) || out(hour + 1);
                case 3: return out(hour) && (hour == 0 || out(hour - 1));
                case 4: return false;
                default: return hour % 2 == 0 || out(hour) && out(hour - 1);
            }
        }
    }

    /** The houses, and how they were ahead of each deed. */
    static final class World {
        List<House> houses = new ArrayList<>();
        int day;
        List<World> past = new ArrayList<>();

        World bare() {
            World c = new World();
            for (House h : houses) {
                c.houses.add(h.twin());
            }
            c.day = day;
            return c;
        }

        World whole() {
            World c = bare();
            c.past.addAll(past);
            return c;
        }

        /** Walks on these very houses: letters brought; house by house into the row, if there is one. */
        int go(List<Integer> round, Set<Integer> in) {
            int sum = 0, hour = 0, from = 0;
            for (int h : round) {
                while (from != h) {
                    from += from < h ? 1 : -1;
                    hour++;
                }
                House house = houses.get(h);
                if (hour <= 11 && house.empty(hour) && !in.contains(h)) {
                    sum += house.due;
                    house.brought += house.due;
                    house.due = 0;
                }
            }
            return sum;
        }

        void night() {
            day++;
            for (House h : houses) {
                h.errands.clear();
                if (h.kind != 4 && h.due < 99) {
                    h.due++;
                }
            }
        }

        int due() {
            return houses.stream().mapToInt(h -> h.due).sum();
        }
    }

    int[][] rows = new int[6][];
    byte[][] texts = new byte[4][];
    World now = new World();
    World[] kept = new World[3];
    int asked, finding;
    int[] findings = new int[6];
    BigInteger upper = BigInteger.ZERO, lower = BigInteger.ONE;

    private int find(int f) {
        finding = f;
        findings[f]++;
        return FINDING;
    }

    private static boolean in(int v, int from, int to) {
        return v >= from && v <= to;
    }

    private int houses() {
        return now.houses.size();
    }

    int row(int r, int n) {
        if (!in(r, 0, 5) || n > 40) return BAD;
        if (n < 0) return find(5);
        rows[r] = new int[n];
        return n;
    }

    int lay(int r, int i, int v) {
        int a = at(r, i);
        if (a == 1) rows[r][i] = v;
        return a;
    }

    int at(int r, int i) {
        if (!in(r, 0, 5)) return BAD;
        if (rows[r] == null) return find(1);
        if (!in(i, 0, rows[r].length - 1)) return find(2);
        asked = rows[r][i];
        return 1;
    }

    int tear(int r) {
        if (!in(r, 0, 5)) return BAD;
        if (rows[r] == null) return find(1);
        rows[r] = null;
        return 1;
    }

    int copy(int r, int i, int to, int j, int n) {
        if (!in(r, 0, 5) || !in(to, 0, 5)) return BAD;
        if (n < 0) return find(5);
        if (rows[r] == null || rows[to] == null) return find(1);
        if (i < 0 || j < 0 || (long) i + n > rows[r].length || (long) j + n > rows[to].length) return find(2);
        int[] taken = Arrays.copyOfRange(rows[r], i, i + n);
        for (int k = 0; k < n; k++) rows[to][j + k] = taken[k];
        return 1;
    }

    int mean(int r) {
        if (!in(r, 0, 5)) return BAD;
        if (rows[r] == null) return find(1);
        if (rows[r].length == 0) return find(4);
        BigInteger sum = BigInteger.ZERO;
        for (int v : rows[r]) sum = sum.add(BigInteger.valueOf(v));
        asked = sum.divide(BigInteger.valueOf(rows[r].length)).intValueExact();
        return 1;
    }

    int text(int t, int n) {
        if (!in(t, 0, 3) || n > 60) return BAD;
        if (n < 0) return find(5);
        texts[t] = new byte[n];
        Arrays.fill(texts[t], (byte) ' ');
        return n;
    }

    int put(int t, int i, int v) {
        if (!in(t, 0, 3)) return BAD;
        if (texts[t] == null) return find(1);
        if (!in(i, 0, texts[t].length - 1)) return find(2);
        int was = texts[t][i];
        texts[t][i] = (byte) v;
        return was + 1000;
    }

    private String signs(int t) {
        StringBuilder b = new StringBuilder();
        for (byte v : texts[t]) b.append((char) (v & 255));
        return b.toString();
    }

    /** The first sign with which nothing can go on; a prefix can, if the matcher hit its end. */
    int fault(int t) {
        if (!in(t, 0, 3)) return BAD;
        if (texts[t] == null) return find(1);
        String s = signs(t);
        for (int i = 0; i < s.length(); i++) {
            Matcher m = TEXT.matcher(s.substring(0, i + 1));
            if (!m.matches() && !m.hitEnd()) return i;
        }
        return TEXT.matcher(s).matches() ? NONE : s.length();
    }

    int post(int t) {
        if (!in(t, 0, 3)) return BAD;
        if (texts[t] == null) return find(1);
        if (!TEXT.matcher(signs(t)).matches()) return STATE;
        World w = new World();
        Matcher m = Pattern.compile("([a-z])(..)(.)(.)").matcher(signs(t).replace(" ", ""));
        while (m.find()) {
            House h = new House();
            h.kind = "hiftsd".indexOf(m.group(1));
            int from = Integer.parseInt(m.group(2));
            for (int k = 0; k < Integer.parseInt(m.group(3)); k++) if (from + k <= 11) h.told.add(from + k);
            h.due = Integer.parseInt(m.group(4));
            w.houses.add(h);
        }
        now = w;
        kept = new World[3];
        return houses();
    }

    private static int hours(java.util.function.IntPredicate p) {
        int bits = 0;
        for (int t = 0; t < 12; t++) if (p.test(t)) bits += 1 << t;
        return bits;
    }

    private int tells(int h, int what) {
        House x = now.houses.get(h);
        switch (what) {
            case 0: return x.kind;
            case 1: return hours(x::out);
            case 2: return x.due;
            case 3: return hours(x::empty);
            default: return x.brought;
        }
    }

    int house(int h, int what) {
        if (!in(h, 0, houses() - 1) || !in(what, 0, 4)) return BAD;
        asked = tells(h, what);
        return 1;
    }

    int mark(int h, int kind) {
        if (!in(h, 0, houses() - 1) || !in(kind, 1, 5)) return BAD;
        House x = now.houses.get(h);
        List<Integer> is = List.of(List.of(0), List.of(1), List.of(2), List.of(3), List.of(1, 4), List.of(3, 5)).get(x.kind);
        if (!is.contains(kind)) return find(3);
        if (kind == 1) {
            int sum = 0;
            for (int k = 0; k < houses(); k++) if (Math.abs(k - h) <= 1) sum += now.houses.get(k).due;
            return sum;
        }
        if (kind == 2) return Integer.bitCount(hours(t -> x.empty(t) && !x.out(t)));
        if (kind == 3) return Integer.bitCount(hours(t -> !x.empty(t) && x.out(t)));
        if (kind == 4) {
            int days = 0;
            for (int due = x.due; due < 99; due++) days++;
            return days;
        }
        for (int t = 0; t < 12; t++) if (!x.empty(t)) return t;
        return NONE;
    }

    int errand(int h, int hour) {
        if (!in(h, 0, houses() - 1) || !in(hour, 0, 11)) return BAD;
        House x = now.houses.get(h);
        if (x.out(hour)) return STATE;
        if (now.past.size() == 40) return FULL;
        now.past.add(now.bare());
        x.errands.add(hour);
        return Integer.bitCount(hours(x::empty));
    }

    private int refuse(int r) {
        if (!in(r, 0, 5)) return BAD;
        if (houses() == 0) return STATE;
        if (rows[r] == null) return find(1);
        if (rows[r].length > 12) return find(5);
        for (int v : rows[r]) if (!in(v, 0, houses() - 1)) return find(3);
        return 0;
    }

    private List<Integer> round(int r) {
        List<Integer> l = new ArrayList<>();
        for (int v : rows[r]) l.add(v);
        return l;
    }

    private int day(List<Integer> round) {
        now.past.add(now.bare());
        int sum = now.go(round, Set.of());
        now.night();
        return sum;
    }

    int walk(int r) {
        int e = refuse(r);
        if (e != 0) return e;
        if (now.past.size() == 40) return FULL;
        return day(round(r));
    }

    int undo(int n) {
        if (!in(n, 0, now.past.size())) return BAD;
        int gone = now.past.size() - n;
        if (gone == 0) return 0;
        World w = now.past.get(n).bare();
        w.past.addAll(now.past.subList(0, n));
        now = w;
        return gone;
    }

    int keep(int k) {
        if (!in(k, 0, 2)) return BAD;
        if (houses() == 0) return STATE;
        kept[k] = now.whole();
        return now.past.size();
    }

    int on(int k) {
        if (!in(k, 0, 2)) return BAD;
        if (kept[k] == null) return find(1);
        now = kept[k].whole();
        return now.past.size();
    }

    int empty(int hour) {
        if (!in(hour, 0, 11)) return BAD;
        int bits = 0;
        for (int h = 0; h < houses(); h++) if (now.houses.get(h).empty(hour)) bits += 1 << h;
        return bits;
    }

    int hour(int r, int i) {
        if (i < 0) return BAD;
        int e = refuse(r);
        if (e != 0) return e;
        if (i >= rows[r].length) return find(2);
        int hour = rows[r][0];
        for (int k = 1; k <= i; k++) hour += Math.abs(rows[r][k] - rows[r][k - 1]);
        return hour;
    }

    int brings(int r) {
        int e = refuse(r);
        if (e != 0) return e;
        World w = now.bare();
        int sum = w.go(round(r), Set.of());
        asked = 0;
        for (int h = 0; h < houses(); h++) if (w.houses.get(h).due == 0) asked += 1 << h;
        return sum;
    }

    private boolean served(World w, int h, List<Integer> round) {
        World c = w.bare();
        int ahead = c.houses.get(h).due;
        c.go(round, Set.of());
        return c.houses.get(h).due < ahead;
    }

    int should(int h, int r) {
        if (!in(h, 0, houses() - 1)) return BAD;
        int e = refuse(r);
        if (e != 0) return e;
        if (served(now, h, round(r))) return 0;
        return hours(t -> {
            World w = now.bare();
            return !w.houses.get(h).out(t) && w.houses.get(h).errands.add(t) && served(w, h, round(r));
        });
    }

    int never() {
        int bits = 0;
        for (int h = 0; h < houses(); h++) {
            boolean some = false;
            for (int t = h; t < 12; t++) some |= now.houses.get(h).empty(t);
            if (!some) bits += 1 << h;
        }
        return bits;
    }

    /** All rounds of houses each once at most, sorted by their houses. */
    private List<List<Integer>> rounds() {
        List<List<Integer>> all = new ArrayList<>(List.of(List.of()));
        for (int k = 0; k < all.size(); k++) {
            for (int h = 0; h < houses(); h++) {
                if (!all.get(k).contains(h)) {
                    List<Integer> more = new ArrayList<>(all.get(k));
                    more.add(h);
                    all.add(more);
                }
            }
        }
        all.sort((a, b) -> {
            for (int k = 0; k < Math.min(a.size(), b.size()); k++) {
                int c = Integer.compare(a.get(k), b.get(k));
                if (c != 0) return c;
            }
            return Integer.compare(a.size(), b.size());
        });
        return all;
    }

    int best(int r) {
        if (!in(r, 0, 5)) return BAD;
        if (houses() == 0) return STATE;
        int most = -1;
        for (List<Integer> round : rounds()) {
            int sum = now.bare().go(round, Set.of());
            if (sum > most) {
                most = sum;
                rows[r] = round.stream().mapToInt(v -> v).toArray();
            }
        }
        return most;
    }

    int most() {
        if (houses() == 0) return STATE;
        int most = -1, many = 0;
        for (List<Integer> round : rounds()) {
            World w = now.bare();
            w.go(round, Set.of());
            int n = 0;
            for (int h = 0; h < houses(); h++) if (w.houses.get(h).due < now.houses.get(h).due) n++;
            if (n > most) {
                most = n;
                many = 0;
            }
            if (n == most) many++;
        }
        asked = many;
        return most;
    }

    /** The hour of the last stop that the round can't be without. */
    private int lastHour(List<Integer> round, int sum) {
        int n = round.size();
        while (n > 0 && now.bare().go(round.subList(0, n - 1), Set.of()) == sum) n--;
        int hour = 0;
        for (int k = 0; k < n; k++) hour += Math.abs(round.get(k) - (k == 0 ? 0 : round.get(k - 1)));
        return hour;
    }

    int soon() {
        if (houses() == 0) return STATE;
        int most = -1, least = 0;
        for (List<Integer> round : rounds()) {
            int sum = now.bare().go(round, Set.of());
            if (sum >= most) {
                int last = lastHour(round, sum);
                least = sum > most ? last : Math.min(least, last);
                most = sum;
            }
        }
        return least;
    }

    int errands() {
        if (houses() == 0) return STATE;
        int sum = 0;
        for (int h = 0; h < houses(); h++) {
            int least = now.houses.get(h).due == 0 ? 0 : 3;
            for (int a = -1; a < 12; a++) {
                for (int b = -1; b < 12; b++) {
                    House x = now.houses.get(h).twin();
                    Set<Integer> more = new HashSet<>(List.of(a));
                    more.add(b);
                    more.remove(-1);
                    if (more.stream().anyMatch(x::out)) continue;
                    x.errands.addAll(more);
                    if (x.empty(h)) least = Math.min(least, more.size());
                }
            }
            if (least == 3) return NONE;
            sum += least;
        }
        return sum;
    }

    private int refuseSights(int r) {
        if (!in(r, 0, 5)) return BAD;
        if (rows[r] == null) return find(1);
        if (rows[r].length % 2 == 1) return find(5);
        for (int k = 0; k < rows[r].length; k++) if (!in(rows[r][k], 0, k % 2 == 0 ? 11 : 1)) return find(3);
        return 0;
    }

    private boolean agrees(int r, House x) {
        for (int k = 0; k < rows[r].length; k += 2) if (x.empty(rows[r][k]) != (rows[r][k + 1] == 1)) return false;
        return true;
    }

    int kinds(int h, int r) {
        if (!in(h, 0, houses() - 1)) return BAD;
        int e = refuseSights(r);
        if (e != 0) return e;
        int bits = 0;
        for (int kind = 0; kind < 6; kind++) {
            House x = now.houses.get(h).twin();
            x.kind = kind;
            if (agrees(r, x)) bits += 1 << kind;
        }
        return bits;
    }

    int outs(int h, int n, int r) {
        if (!in(h, 0, houses() - 1) || !in(n, 0, 9)) return BAD;
        int e = refuseSights(r);
        if (e != 0) return e;
        return hours(from -> {
            House x = new House();
            x.kind = now.houses.get(h).kind;
            for (int t = from; t < from + n && t <= 11; t++) x.told.add(t);
            return agrees(r, x);
        });
    }

    int feigned() {
        int bits = 0;
        for (int h = 0; h < houses(); h++) if ((tells(h, 3) & ~tells(h, 1)) != 0) bits += 1 << h;
        return bits;
    }

    int sack(int r, int n) {
        if (!in(n, 0, 30)) return BAD;
        int e = refuse(r);
        if (e != 0) return e;
        World w = now.bare();
        for (int k = 0; k < n; k++) {
            w.go(round(r), Set.of());
            w.night();
        }
        return w.due();
    }

    int race(int n) {
        if (!in(n, 0, 2)) return BAD;
        if (houses() == 0) return STATE;
        return postman(new ArrayList<>(), new ArrayList<>(), n);
    }

    /** Turns are kept as they were taken and all told from the start at the end. */
    private int postman(List<Integer> gone, List<Integer> in, int n) {
        if (gone.size() == n) return tell(gone, in);
        int most = 0;
        for (int h = 0; h < houses(); h++) {
            gone.add(h);
            int least = Integer.MAX_VALUE;
            for (int w = 0; w < houses(); w++) {
                in.add(w);
                least = Math.min(least, postman(gone, in, n));
                in.remove(in.size() - 1);
            }
            most = Math.max(most, least);
            gone.remove(gone.size() - 1);
        }
        return most;
    }

    private int tell(List<Integer> gone, List<Integer> in) {
        World w = now.bare();
        int sum = 0, hour = 0, from = 0;
        for (int k = 0; k < gone.size(); k++) {
            int h = gone.get(k);
            hour += Math.abs(h - from);
            from = h;
            House x = w.houses.get(h);
            if (hour <= 11 && x.empty(hour) && !in.subList(0, k).contains(h)) {
                sum += x.due;
                x.due = 0;
            }
        }
        return sum;
    }

    /** Through all sets of houses with rain: the weight of each, times what the function tells. */
    private void rain(int p, java.util.function.ToIntFunction<Set<Integer>> tells) {
        BigInteger up = BigInteger.ZERO;
        for (int bits = 0; bits < 1 << houses(); bits++) {
            Set<Integer> in = new HashSet<>();
            BigInteger weight = BigInteger.ONE;
            for (int h = 0; h < houses(); h++) {
                boolean wet = (bits >> h) % 2 == 1;
                if (wet) in.add(h);
                weight = weight.multiply(BigInteger.valueOf(wet ? p : 12 - p));
            }
            up = up.add(weight.multiply(BigInteger.valueOf(tells.applyAsInt(in))));
        }
        BigInteger low = BigInteger.valueOf(12).pow(houses());
        BigInteger g = up.gcd(low);
        upper = up.divide(g);
        lower = low.divide(g);
    }

    int mid(int r, int p) {
        if (!in(p, 0, 12)) return BAD;
        int e = refuse(r);
        if (e != 0) return e;
        rain(p, in -> now.bare().go(round(r), in));
        return 1;
    }

    int odds(int r, int p) {
        if (!in(p, 0, 12)) return BAD;
        int e = refuse(r);
        if (e != 0) return e;
        int all = now.bare().go(round(r), Set.of());
        rain(p, in -> now.bare().go(round(r), in) == all ? 1 : 0);
        return 1;
    }

    int lots(int n, int seed) {
        if (!in(n, 1, 20) || !in(seed, 1, 2147483646)) return BAD;
        if (houses() == 0) return STATE;
        if (now.past.size() + n > 40) return FULL;
        BigInteger lot = BigInteger.valueOf(seed);
        int sum = 0;
        for (int k = 0; k < n; k++) {
            lot = lot.multiply(BigInteger.valueOf(48271)).mod(BigInteger.valueOf(2147483647));
            List<Integer> round = new ArrayList<>();
            for (int h = lot.mod(BigInteger.valueOf(houses())).intValue(); h < houses(); h++) round.add(h);
            sum += day(round);
        }
        return sum;
    }

    int count(int what) {
        switch (what) {
            case 0: return houses();
            case 1: return now.day;
            case 2: return now.past.size();
            case 3: return now.due();
            case 4: return now.houses.stream().mapToInt(h -> h.brought).sum();
            case 5: return (int) now.houses.stream().filter(h -> h.kind == 1 || h.kind == 4).count();
            case 6: return (int) now.houses.stream().filter(h -> h.kind == 3 || h.kind == 5).count();
            case 7: return (int) Arrays.stream(rows).filter(x -> x != null).count();
            case 8: return (int) Arrays.stream(texts).filter(x -> x != null).count();
            case 9: return (int) Arrays.stream(kept).filter(x -> x != null).count();
            default: return BAD;
        }
    }

    int findings(int f) {
        return in(f, 1, 5) ? findings[f] : BAD;
    }

    long digest() {
        List<Integer> all = new ArrayList<>();
        for (int what = 0; what <= 9; what++) all.add(count(what));
        for (int h = 0; h < houses(); h++) for (int what = 0; what <= 4; what++) all.add(tells(h, what));
        for (World w : kept) all.add(w == null ? -1 : w.past.size());
        for (int[] row : rows) {
            all.add(row == null ? -1 : row.length);
            if (row != null) for (int v : row) all.add(v);
        }
        for (byte[] text : texts) {
            all.add(text == null ? -1 : text.length);
            if (text != null) for (byte v : text) all.add((int) v);
        }
        long h = 17;
        for (int v : all) h = 31 * h + v;
        return h;
    }
}
