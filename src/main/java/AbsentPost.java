import java.util.Arrays;

/** A post that brings letters only to those who are out; README.md tells how to use it. */
public final class AbsentPost {
    public static final int BAD = -1, FULL = -2, FINDING = -3, STATE = -4, SPENT = -6, NONE = -9;

    private static final int NOTHING = 1, BEYOND = 2, UNLIKE = 3, NOUGHT = 4, SIZE = 5;
    private static final int HOUSE = 0, INVALID = 1, FEIGNED = 2, TWIN = 3, SNOWED = 4, DOCTOR = 5;
    private static final int KINDS = 6;
    private static final int ROWS = 6, ROW_MOST = 40;
    private static final int TEXTS = 4, TEXT_MOST = 60;
    private static final int KEPT = 3;
    private static final int HOUSES_MOST = 6, STOPS_MOST = 12, DEEDS_MOST = 40, DUE_MOST = 99;
    private static final int HOURS = 12, ALL_HOURS = 0xFFF, EVEN_HOURS = 0x555;
    private static final int OUT_MOST = 9, DAYS_MOST = 30, TURNS_MOST = 2, LOT_DAYS_MOST = 20;
    private static final int RAIN_OF = 12;
    private static final int HOUSE_WHATS = 5, COUNT_WHATS = 10;
    private static final int BLANK = 32, FIGURE_0 = 48, FIGURE_9 = 57, ITEM_SIZE = 5;
    private static final int BYTE_SHIFT = 1000;
    private static final long LOT_FACTOR = 48271L, LOT_MODULUS = 2147483647L;
    /** The letter of each kind, at the kind's number. */
    private static final int[] KIND_LETTERS = {104, 105, 102, 116, 115, 100};

    private final int[][] rows;
    private final int[] rowSizes;
    private final byte[][] texts;
    private final int[] textSizes;
    private final Post now;
    /** A kept post without houses is missing: one that is kept has some. */
    private final Post[] kept;
    private final Round round;
    private final Search search;
    /** Letters due and empty hours by house, for what is tried aside. */
    private final int[] left, open;
    private final int[] tallies;
    private int latestAsked, latestFinding;
    private long latestUpper, latestLower;

    public AbsentPost() {
        rows = new int[ROWS][ROW_MOST];
        rowSizes = new int[ROWS];
        Arrays.fill(rowSizes, -1);
        texts = new byte[TEXTS][TEXT_MOST];
        textSizes = new int[TEXTS];
        Arrays.fill(textSizes, -1);
        now = new Post();
        kept = new Post[KEPT];
        for (int k = 0; k < KEPT; k++) {
            kept[k] = new Post();
        }
        round = new Round();
        search = new Search();
        left = new int[HOUSES_MOST];
        open = new int[HOUSES_MOST];
        tallies = new int[SIZE + 1];
        latestLower = 1;
    }

    // ---- 1 rows, texts, posts

    public int row(int r, int n) {
        if (!isRow(r) || n > ROW_MOST) {
            return BAD;
        }
        if (n < 0) {
            return find(SIZE);
        }
        Arrays.fill(rows[r], 0);
        rowSizes[r] = n;
        return n;
    }

    public int lay(int r, int i, int v) {
        int refused = refusePlace(r, i);
        if (refused != 0) {
            return refused;
        }
        latestAsked = rows[r][i];
        rows[r][i] = v;
        return 1;
    }

    public int at(int r, int i) {
        int refused = refusePlace(r, i);
        if (refused != 0) {
            return refused;
        }
        latestAsked = rows[r][i];
        return 1;
    }

    public int tear(int r) {
        if (!isRow(r)) {
            return BAD;
        }
        if (rowSizes[r] < 0) {
            return find(NOTHING);
        }
        rowSizes[r] = -1;
        return 1;
    }

    public int copy(int r, int i, int to, int j, int n) {
        if (!isRow(r) || !isRow(to)) {
            return BAD;
        }
        if (n < 0) {
            return find(SIZE);
        }
        if (rowSizes[r] < 0 || rowSizes[to] < 0) {
            return find(NOTHING);
        }
        if (!hasPlaces(rowSizes[r], i, n) || !hasPlaces(rowSizes[to], j, n)) {
            return find(BEYOND);
        }
        System.arraycopy(rows[r], i, rows[to], j, n);
        return 1;
    }

    public int mean(int r) {
        if (!isRow(r)) {
            return BAD;
        }
        int size = rowSizes[r];
        if (size < 0) {
            return find(NOTHING);
        }
        if (size == 0) {
            return find(NOUGHT);
        }
        long sum = 0;
        for (int i = 0; i < size; i++) {
            sum += rows[r][i];
        }
        latestAsked = (int) (sum / size);
        return 1;
    }

    public int text(int t, int n) {
        if (!isText(t) || n > TEXT_MOST) {
            return BAD;
        }
        if (n < 0) {
            return find(SIZE);
        }
        Arrays.fill(texts[t], (byte) BLANK);
        textSizes[t] = n;
        return n;
    }

    public int put(int t, int i, int v) {
        if (!isText(t)) {
            return BAD;
        }
        if (textSizes[t] < 0) {
            return find(NOTHING);
        }
        if (i < 0 || i >= textSizes[t]) {
            return find(BEYOND);
        }
        int was = texts[t][i];
        texts[t][i] = (byte) v;
        return was + BYTE_SHIFT;
    }

    public int fault(int t) {
        if (!isText(t)) {
            return BAD;
        }
        if (textSizes[t] < 0) {
            return find(NOTHING);
        }
        return firstFault(texts[t], textSizes[t]);
    }

    public int post(int t) {
        if (!isText(t)) {
            return BAD;
        }
        if (textSizes[t] < 0) {
            return find(NOTHING);
        }
        if (firstFault(texts[t], textSizes[t]) != NONE) {
            return STATE;
        }
        now.readFrom(texts[t], textSizes[t]);
        for (int k = 0; k < KEPT; k++) {
            kept[k].houses = 0;
        }
        return now.houses;
    }

    public int house(int h, int what) {
        if (!isHouse(h) || what < 0 || what >= HOUSE_WHATS) {
            return BAD;
        }
        latestAsked = now.tells(h, what);
        return 1;
    }

    public int mark(int h, int kind) {
        if (!isHouse(h) || kind <= HOUSE || kind >= KINDS) {
            return BAD;
        }
        if (!isOfKind(now.kindOf[h], kind)) {
            return find(UNLIKE);
        }
        int out = now.outHours(h);
        int free = now.emptyHours(h);
        switch (kind) {
            case INVALID:
                return now.dueAround(h);
            case FEIGNED:
                return Integer.bitCount(free & ~out);
            case TWIN:
                return Integer.bitCount(out & ~free);
            case SNOWED:
                return DUE_MOST - now.due[h];
            default:
                return firstHour(ALL_HOURS & ~free);
        }
    }

    // ---- 2 deeds

    public int errand(int h, int hour) {
        if (!isHouse(h) || !isHour(hour)) {
            return BAD;
        }
        if (hasBit(now.outHours(h), hour)) {
            return STATE;
        }
        if (now.deedCount >= DEEDS_MOST) {
            return FULL;
        }
        now.doErrand(h, hour);
        return Integer.bitCount(now.emptyHours(h));
    }

    public int walk(int r) {
        int refused = refuseRound(r);
        if (refused != 0) {
            return refused;
        }
        if (now.deedCount >= DEEDS_MOST) {
            return FULL;
        }
        return now.doRound(round, open);
    }

    public int undo(int n) {
        // from just behind the last deed on there are none: none is undone
        if (n < 0 || n > now.deedCount) {
            return BAD;
        }
        int gone = now.deedCount - n;
        now.goBackTo(n, round, open);
        return gone;
    }

    public int keep(int k) {
        if (!isKept(k)) {
            return BAD;
        }
        if (now.houses == 0) {
            return STATE;
        }
        kept[k].becomeLike(now);
        return now.deedCount;
    }

    public int on(int k) {
        if (!isKept(k)) {
            return BAD;
        }
        if (kept[k].houses == 0) {
            return find(NOTHING);
        }
        now.becomeLike(kept[k]);
        return now.deedCount;
    }

    // ---- 3 who is out when

    public int empty(int hour) {
        if (!isHour(hour)) {
            return BAD;
        }
        int bits = 0;
        for (int h = 0; h < now.houses; h++) {
            if (hasBit(now.emptyHours(h), hour)) {
                bits |= 1 << h;
            }
        }
        return bits;
    }

    public int hour(int r, int i) {
        if (i < 0) {
            return BAD;
        }
        int refused = refuseRound(r);
        if (refused != 0) {
            return refused;
        }
        if (i >= round.size) {
            return find(BEYOND);
        }
        return round.hourOf(i);
    }

    public int brings(int r) {
        int refused = refuseRound(r);
        if (refused != 0) {
            return refused;
        }
        int letters = tryRound();
        int bits = 0;
        for (int h = 0; h < now.houses; h++) {
            if (left[h] == 0) {
                bits |= 1 << h;
            }
        }
        latestAsked = bits;
        return letters;
    }

    public int should(int h, int r) {
        if (!isHouse(h)) {
            return BAD;
        }
        int refused = refuseRound(r);
        if (refused != 0) {
            return refused;
        }
        if (now.due[h] == 0 || round.meets(h, now.emptyHours(h))) {
            return 0;
        }
        int bits = 0;
        int out = now.outHours(h);
        for (int hour = 0; hour < HOURS; hour++) {
            if (!hasBit(out, hour) && round.meets(h, now.emptyWith(h, 1 << hour))) {
                bits |= 1 << hour;
            }
        }
        return bits;
    }

    public int never() {
        int bits = 0;
        for (int h = 0; h < now.houses; h++) {
            if (now.emptyHours(h) >> h == 0) {
                bits |= 1 << h;
            }
        }
        return bits;
    }

    // ---- 4 the best round

    public int best(int r) {
        if (!isRow(r)) {
            return BAD;
        }
        if (now.houses == 0) {
            return STATE;
        }
        search.over(now);
        Arrays.fill(rows[r], 0);
        System.arraycopy(search.richest, 0, rows[r], 0, search.richestSize);
        rowSizes[r] = search.richestSize;
        return search.mostLetters;
    }

    public int most() {
        if (now.houses == 0) {
            return STATE;
        }
        search.over(now);
        latestAsked = search.widestRounds;
        return search.mostServed;
    }

    public int soon() {
        if (now.houses == 0) {
            return STATE;
        }
        search.over(now);
        return search.soonest;
    }

    public int errands() {
        if (now.houses == 0) {
            return STATE;
        }
        int all = 0;
        for (int h = 0; h < now.houses; h++) {
            // along the lane he is at each house at the hour of its number
            int more = now.due[h] == 0 ? 0 : now.fewestErrands(h, h);
            if (more == NONE) {
                return NONE;
            }
            all += more;
        }
        return all;
    }

    // ---- 5 who feigned

    public int kinds(int h, int r) {
        if (!isHouse(h)) {
            return BAD;
        }
        int refused = refuseSights(r);
        if (refused != 0) {
            return refused;
        }
        int bits = 0;
        for (int kind = 0; kind < KINDS; kind++) {
            if (agrees(r, emptyBits(kind, now.outHours(h), now.errandHours[h]))) {
                bits |= 1 << kind;
            }
        }
        return bits;
    }

    public int outs(int h, int n, int r) {
        if (!isHouse(h) || n < 0 || n > OUT_MOST) {
            return BAD;
        }
        int refused = refuseSights(r);
        if (refused != 0) {
            return refused;
        }
        int bits = 0;
        for (int from = 0; from < HOURS; from++) {
            if (agrees(r, emptyBits(now.kindOf[h], hoursFrom(from, n), 0))) {
                bits |= 1 << from;
            }
        }
        return bits;
    }

    public int feigned() {
        int bits = 0;
        for (int h = 0; h < now.houses; h++) {
            if ((now.emptyHours(h) & ~now.outHours(h)) != 0) {
                bits |= 1 << h;
            }
        }
        return bits;
    }

    // ---- 6 the sack, a wag

    public int sack(int r, int n) {
        if (n < 0 || n > DAYS_MOST) {
            return BAD;
        }
        int refused = refuseRound(r);
        if (refused != 0) {
            return refused;
        }
        System.arraycopy(now.due, 0, left, 0, HOUSES_MOST);
        now.fillEmpty(open, true);
        for (int day = 0; day < n; day++) {
            round.bringTo(left, open);
            now.addDaily(left);
            now.fillEmpty(open, false);
        }
        return now.sum(left);
    }

    public int race(int n) {
        if (n < 0 || n > TURNS_MOST) {
            return BAD;
        }
        if (now.houses == 0) {
            return STATE;
        }
        now.fillEmpty(open, true);
        return postmanTurn(0, 0, 0, n);
    }

    // ---- 7 rain, lots

    public int mid(int r, int p) {
        if (p < 0 || p > RAIN_OF) {
            return BAD;
        }
        int refused = refuseRound(r);
        if (refused != 0) {
            return refused;
        }
        // each house stays dry by the same chance, so the mean is that share of all
        tellShare((long) tryRound() * (RAIN_OF - p), RAIN_OF);
        return 1;
    }

    public int odds(int r, int p) {
        if (p < 0 || p > RAIN_OF) {
            return BAD;
        }
        int refused = refuseRound(r);
        if (refused != 0) {
            return refused;
        }
        tryRound();
        long up = 1;
        long low = 1;
        for (int h = 0; h < now.houses; h++) {
            if (left[h] < now.due[h]) {
                up *= RAIN_OF - p;
                low *= RAIN_OF;
            }
        }
        tellShare(up, low);
        return 1;
    }

    public int lots(int n, int seed) {
        if (n < 1 || n > LOT_DAYS_MOST || seed < 1 || seed >= LOT_MODULUS) {
            return BAD;
        }
        if (now.houses <= 0) {
            return STATE;
        }
        if (now.deedCount + n > DEEDS_MOST) {
            return FULL;
        }
        long lot = seed;
        int letters = 0;
        for (int day = 0; day < n; day++) {
            lot = lot * LOT_FACTOR % LOT_MODULUS;
            round.goAlong((int) (lot % now.houses), now.houses);
            letters += now.doRound(round, open);
        }
        return letters;
    }

    // ---- 8 what is told

    public int asked() {
        return latestAsked;
    }

    public long upper() {
        return latestUpper;
    }

    public long lower() {
        return latestLower;
    }

    public int count(int what) {
        if (what < 0 || what >= COUNT_WHATS) {
            return BAD;
        }
        switch (what) {
            case 0:
                return now.houses;
            case 1:
                return now.day;
            case 2:
                return now.deedCount;
            case 3:
                return now.sum(now.due);
            case 4:
                return now.sum(now.brought);
            case 5:
                return now.countKind(INVALID);
            case 6:
                return now.countKind(TWIN);
            case 7:
                return countThere(rowSizes);
            case 8:
                return countThere(textSizes);
            default:
                return countKept();
        }
    }

    public int finding() {
        return latestFinding;
    }

    public int findings(int f) {
        if (f < NOTHING || f > SIZE) {
            return BAD;
        }
        return tallies[f];
    }

    public long digest() {
        long sum = 17;
        for (int what = 0; what < COUNT_WHATS; what++) {
            sum = 31 * sum + count(what);
        }
        for (int h = 0; h < now.houses; h++) {
            for (int what = 0; what < HOUSE_WHATS; what++) {
                sum = 31 * sum + now.tells(h, what);
            }
        }
        for (int k = 0; k < KEPT; k++) {
            sum = 31 * sum + (kept[k].houses > 0 ? kept[k].deedCount : -1);
        }
        for (int r = 0; r < ROWS; r++) {
            sum = 31 * sum + rowSizes[r];
            for (int i = 0; i < rowSizes[r]; i++) {
                sum = 31 * sum + rows[r][i];
            }
        }
        for (int t = 0; t < TEXTS; t++) {
            sum = 31 * sum + textSizes[t];
            for (int i = 0; i < textSizes[t]; i++) {
                sum = 31 * sum + texts[t][i];
            }
        }
        return sum;
    }

    // ---- what is a number of what

    private static boolean isRow(int r) {
        return r >= 0 && r < ROWS;
    }

    private static boolean isText(int t) {
        return t >= 0 && t < TEXTS;
    }

    private static boolean isKept(int k) {
        return k >= 0 && k < KEPT;
    }

    private static boolean isHour(int hour) {
        return hour >= 0 && hour < HOURS;
    }

    private boolean isHouse(int h) {
        return h >= 0 && h < now.houses;
    }

    /** Written without i + n, which could wrap around. */
    private static boolean hasPlaces(int size, int i, int n) {
        return i >= 0 && n <= size && i <= size - n;
    }

    // ---- refusals

    private int find(int finding) {
        latestFinding = finding;
        tallies[finding]++;
        return FINDING;
    }

    /** 0, if a row has a place. */
    private int refusePlace(int r, int i) {
        if (!isRow(r)) {
            return BAD;
        }
        if (rowSizes[r] < 0) {
            return find(NOTHING);
        }
        if (i < 0 || i >= rowSizes[r]) {
            return find(BEYOND);
        }
        return 0;
    }

    /** 0, if a row holds a round, which then stands in the field round. */
    private int refuseRound(int r) {
        if (!isRow(r)) {
            return BAD;
        }
        if (now.houses == 0) {
            return STATE;
        }
        int size = rowSizes[r];
        if (size < 0) {
            return find(NOTHING);
        }
        if (size > STOPS_MOST) {
            return find(SIZE);
        }
        for (int i = 0; i < size; i++) {
            if (!isHouse(rows[r][i])) {
                return find(UNLIKE);
            }
        }
        round.takeFrom(rows[r], size);
        return 0;
    }

    /** 0, if a row holds pairs of an hour and 1 or 0. */
    private int refuseSights(int r) {
        if (!isRow(r)) {
            return BAD;
        }
        int size = rowSizes[r];
        if (size < 0) {
            return find(NOTHING);
        }
        if (size % 2 != 0) {
            return find(SIZE);
        }
        for (int i = 0; i + 1 < size; i += 2) {
            int seen = rows[r][i + 1];
            if (!isHour(rows[r][i]) || seen < 0 || seen > 1) {
                return find(UNLIKE);
            }
        }
        return 0;
    }

    // ---- the small language

    private static int kindByLetter(int sign) {
        for (int kind = 0; kind < KINDS; kind++) {
            if (KIND_LETTERS[kind] == sign) {
                return kind;
            }
        }
        return NONE;
    }

    /** Whether a sign can be figure 1 to 4 of an item, behind the tens of its hour. */
    private static boolean isFigure(int sign, int number, int tens) {
        if (sign < FIGURE_0 || sign > FIGURE_9) {
            return false;
        }
        int value = sign - FIGURE_0;
        if (number == 1) {
            return value <= 1;
        }
        return number != 2 || tens * 10 + value < HOURS;
    }

    private static int firstFault(byte[] signs, int size) {
        int items = 0;
        int figure = 0;
        int tens = 0;
        for (int i = 0; i < size; i++) {
            int sign = signs[i];
            if (figure == 0) {
                if (sign == BLANK) {
                    continue;
                }
                if (items == HOUSES_MOST || kindByLetter(sign) == NONE) {
                    return i;
                }
                items++;
                figure = 1;
            } else {
                if (!isFigure(sign, figure, tens)) {
                    return i;
                }
                if (figure == 1) {
                    tens = sign - FIGURE_0;
                }
                figure = (figure + 1) % ITEM_SIZE;
            }
        }
        return figure != 0 || items == 0 ? size : NONE;
    }

    // ---- hours

    private static boolean hasBit(int bits, int i) {
        return (bits >> i & 1) != 0;
    }

    private static int firstHour(int bits) {
        for (int hour = 0; hour < HOURS; hour++) {
            if (hasBit(bits, hour)) {
                return hour;
            }
        }
        return NONE;
    }

    private static int hoursFrom(int from, int n) {
        return ((1 << n) - 1) << from & ALL_HOURS;
    }

    private static boolean isOfKind(int kind, int wanted) {
        return kind == wanted || kind == SNOWED && wanted == INVALID || kind == DOCTOR && wanted == TWIN;
    }

    /** The hours at which a house of a kind is empty; out are all hours at which its people are. */
    private static int emptyBits(int kind, int out, int errands) {
        int both = out & (out << 1 | 1);
        switch (kind) {
            case INVALID:
                return errands;
            case FEIGNED:
                return (out | out << 1 | out >> 1) & ALL_HOURS;
            case TWIN:
                return both;
            case SNOWED:
                return 0;
            case DOCTOR:
                return both | EVEN_HOURS;
            default:
                return out;
        }
    }

    private boolean agrees(int r, int free) {
        for (int i = 0; i + 1 < rowSizes[r]; i += 2) {
            if (hasBit(free, rows[r][i]) != (rows[r][i + 1] == 1)) {
                return false;
            }
        }
        return true;
    }

    // ---- aside

    /** How many letters the round brings; what stays due is in the field left. */
    private int tryRound() {
        System.arraycopy(now.due, 0, left, 0, HOUSES_MOST);
        now.fillEmpty(open, true);
        return round.bringTo(left, open);
    }

    /** Shut are houses that give nothing more: those that have theirs, those that stay in. */
    private int postmanTurn(int from, int hour, int shut, int turns) {
        if (turns <= 0) {
            return 0;
        }
        int most = 0;
        for (int h = 0; h < now.houses; h++) {
            int then = hour + Math.abs(h - from);
            boolean met = then < HOURS && !hasBit(shut, h) && hasBit(open[h], then);
            int letters = met ? now.due[h] : 0;
            letters += wagTurn(h, then, met ? shut | 1 << h : shut, turns);
            most = Math.max(most, letters);
        }
        return most;
    }

    private int wagTurn(int from, int hour, int shut, int turns) {
        // behind the last turn of the postman nothing can be lost any more
        if (turns <= 1) {
            return 0;
        }
        int least = postmanTurn(from, hour, shut | 1, turns - 1);
        for (int h = 1; h < now.houses; h++) {
            least = Math.min(least, postmanTurn(from, hour, shut | 1 << h, turns - 1));
        }
        return least;
    }

    private void tellShare(long up, long low) {
        long a = low;
        long b = up;
        for (int step = 0; step < 1000 && b != 0; step++) {
            long rest = a % b;
            a = b;
            b = rest;
        }
        if (a != 0) {
            latestUpper = up / a;
            latestLower = low / a;
        }
    }

    private static int countThere(int[] sizes) {
        int there = 0;
        for (int size : sizes) {
            if (size >= 0) {
                there++;
            }
        }
        return there;
    }

    private int countKept() {
        int there = 0;
        for (int k = 0; k < KEPT; k++) {
            if (kept[k].houses > 0) {
                there++;
            }
        }
        return there;
    }

    /** Houses in the order in which the postman goes to them. */
    private static final class Round {
        final int[] stops;
        int size;

        Round() {
            stops = new int[STOPS_MOST];
        }

        void takeFrom(int[] places, int n) {
            size = Math.min(n, STOPS_MOST);
            System.arraycopy(places, 0, stops, 0, size);
        }

        void goAlong(int from, int houses) {
            size = 0;
            for (int h = from; h < houses && size < STOPS_MOST; h++) {
                stops[size++] = h;
            }
        }

        int hourOf(int i) {
            int hour = 0;
            int from = 0;
            for (int k = 0; k <= i && k < size; k++) {
                hour += Math.abs(stops[k] - from);
                from = stops[k];
            }
            return hour;
        }

        /** Takes from the letters what is brought: how many. */
        int bringTo(int[] letters, int[] free) {
            int all = 0;
            int hour = 0;
            int from = 0;
            for (int k = 0; k < size; k++) {
                int h = stops[k];
                hour += Math.abs(h - from);
                from = h;
                if (hour < HOURS && hasBit(free[h], hour)) {
                    all += letters[h];
                    letters[h] = 0;
                }
            }
            return all;
        }

        /** Whether he is at a house at one of these hours. */
        boolean meets(int h, int hours) {
            for (int k = 0; k < size; k++) {
                if (stops[k] == h) {
                    int hour = hourOf(k);
                    if (hour < HOURS && hasBit(hours, hour)) {
                        return true;
                    }
                }
            }
            return false;
        }

        /** The round as one number above 0: its size and 1 more, then three bits a stop. */
        long pack() {
            long packed = 0;
            for (int k = size - 1; k >= 0; k--) {
                packed = packed << 3 | stops[k];
            }
            return packed << 4 | size + 1;
        }

        void unpack(long packed) {
            size = Math.min(Math.max((int) (packed & 15) - 1, 0), STOPS_MOST);
            for (int k = 0; k < size; k++) {
                stops[k] = (int) (packed >> 4 + 3 * k & 7) % HOUSES_MOST;
            }
        }
    }

    /** The houses as they are, and the deeds by which they came to be so. */
    private static final class Post {
        final int[] kindOf, toldHours, firstDue, due, brought, errandHours;
        /** Rounds as Round packs them; an errand is minus (its house times 12, and its hour, and 1). */
        final long[] deeds;
        int houses, day, deedCount;

        Post() {
            kindOf = new int[HOUSES_MOST];
            toldHours = new int[HOUSES_MOST];
            firstDue = new int[HOUSES_MOST];
            due = new int[HOUSES_MOST];
            brought = new int[HOUSES_MOST];
            errandHours = new int[HOUSES_MOST];
            deeds = new long[DEEDS_MOST];
        }

        /** The text is without a fault. */
        void readFrom(byte[] signs, int size) {
            houses = 0;
            int i = 0;
            while (i + ITEM_SIZE <= size && houses < HOUSES_MOST) {
                if (signs[i] == BLANK) {
                    i++;
                } else {
                    int from = (signs[i + 1] - FIGURE_0) * 10 + signs[i + 2] - FIGURE_0;
                    kindOf[houses] = kindByLetter(signs[i]);
                    toldHours[houses] = hoursFrom(from, signs[i + 3] - FIGURE_0);
                    firstDue[houses] = signs[i + 4] - FIGURE_0;
                    houses++;
                    i += ITEM_SIZE;
                }
            }
            startAnew();
        }

        void startAnew() {
            System.arraycopy(firstDue, 0, due, 0, HOUSES_MOST);
            Arrays.fill(brought, 0);
            Arrays.fill(errandHours, 0);
            day = 0;
            deedCount = 0;
        }

        void becomeLike(Post other) {
            System.arraycopy(other.kindOf, 0, kindOf, 0, HOUSES_MOST);
            System.arraycopy(other.toldHours, 0, toldHours, 0, HOUSES_MOST);
            System.arraycopy(other.firstDue, 0, firstDue, 0, HOUSES_MOST);
            System.arraycopy(other.due, 0, due, 0, HOUSES_MOST);
            System.arraycopy(other.brought, 0, brought, 0, HOUSES_MOST);
            System.arraycopy(other.errandHours, 0, errandHours, 0, HOUSES_MOST);
            System.arraycopy(other.deeds, 0, deeds, 0, DEEDS_MOST);
            houses = other.houses;
            day = other.day;
            deedCount = other.deedCount;
        }

        int outHours(int h) {
            return toldHours[h] | errandHours[h];
        }

        int emptyHours(int h) {
            return emptyBits(kindOf[h], outHours(h), errandHours[h]);
        }

        int emptyWith(int h, int more) {
            return emptyBits(kindOf[h], outHours(h) | more, errandHours[h] | more);
        }

        void fillEmpty(int[] free, boolean withErrands) {
            for (int h = 0; h < houses; h++) {
                free[h] = withErrands ? emptyHours(h) : emptyBits(kindOf[h], toldHours[h], 0);
            }
        }

        /** How many errands more, 2 at most, have a house empty at an hour; or NONE. */
        int fewestErrands(int h, int hour) {
            if (hasBit(emptyHours(h), hour)) {
                return 0;
            }
            int out = outHours(h);
            int fewest = NONE;
            for (int a = 0; a < HOURS; a++) {
                if (hasBit(out, a)) {
                    continue;
                }
                if (hasBit(emptyWith(h, 1 << a), hour)) {
                    return 1;
                }
                for (int b = a + 1; b < HOURS; b++) {
                    if (!hasBit(out, b) && hasBit(emptyWith(h, 1 << a | 1 << b), hour)) {
                        fewest = 2;
                    }
                }
            }
            return fewest;
        }

        int tells(int h, int what) {
            switch (what) {
                case 0:
                    return kindOf[h];
                case 1:
                    return outHours(h);
                case 2:
                    return due[h];
                case 3:
                    return emptyHours(h);
                default:
                    return brought[h];
            }
        }

        int dueAround(int h) {
            int letters = due[h];
            if (h > 0) {
                letters += due[h - 1];
            }
            if (h + 1 < houses) {
                letters += due[h + 1];
            }
            return letters;
        }

        int sum(int[] ofHouses) {
            int all = 0;
            for (int h = 0; h < houses; h++) {
                all += ofHouses[h];
            }
            return all;
        }

        int countKind(int kind) {
            int all = 0;
            for (int h = 0; h < houses; h++) {
                if (isOfKind(kindOf[h], kind)) {
                    all++;
                }
            }
            return all;
        }

        void addDaily(int[] letters) {
            for (int h = 0; h < houses; h++) {
                if (kindOf[h] != SNOWED) {
                    letters[h] = Math.min(letters[h] + 1, DUE_MOST);
                }
            }
        }

        /** There are fewer than 40 deeds. */
        void doErrand(int h, int hour) {
            errandHours[h] |= 1 << hour;
            writeDown(-(h * HOURS + hour + 1));
        }

        /** There are fewer than 40 deeds; the hours are overwritten. */
        int doRound(Round round, int[] hours) {
            fillEmpty(hours, true);
            for (int h = 0; h < houses; h++) {
                brought[h] += due[h];
            }
            int letters = round.bringTo(due, hours);
            // what is still due was not brought
            for (int h = 0; h < houses; h++) {
                brought[h] -= due[h];
            }
            addDaily(due);
            Arrays.fill(errandHours, 0);
            day++;
            writeDown(round.pack());
            return letters;
        }

        private void writeDown(long deed) {
            if (deedCount < DEEDS_MOST) {
                deeds[deedCount++] = deed;
            }
        }

        /** Does the first n deeds anew from the start; the round and the hours are overwritten. */
        void goBackTo(int n, Round round, int[] hours) {
            startAnew();
            for (int k = 0; k < n && k < DEEDS_MOST; k++) {
                if (deeds[k] < 0) {
                    int errand = (int) -deeds[k] - 1;
                    doErrand(errand / HOURS, errand % HOURS);
                } else {
                    round.unpack(deeds[k]);
                    doRound(round, hours);
                }
            }
        }
    }

    /** Goes through all rounds with each house once at most, the first by their houses ahead. */
    private static final class Search {
        final int[] free, path, richest;
        /** Of the round of as many stops as the place says: hours, letters, houses that got some. */
        final int[] hours, letters, served;
        /** Likewise, the hour at which it brings its last ones. */
        final int[] lastHours;
        int richestSize, mostLetters, soonest, mostServed, widestRounds;

        Search() {
            free = new int[HOUSES_MOST];
            path = new int[HOUSES_MOST];
            richest = new int[HOUSES_MOST];
            hours = new int[HOUSES_MOST + 1];
            letters = new int[HOUSES_MOST + 1];
            served = new int[HOUSES_MOST + 1];
            lastHours = new int[HOUSES_MOST + 1];
        }

        void over(Post post) {
            post.fillEmpty(free, true);
            richestSize = 0;
            mostLetters = 0;
            soonest = 0;
            mostServed = 0;
            widestRounds = 0;
            goOn(post, 0, 0);
        }

        /** Looks at the round of so many stops, then at all that go on from it. */
        private void goOn(Post post, int size, int used) {
            weigh(size);
            if (size >= HOUSES_MOST) {
                return;
            }
            for (int h = 0; h < post.houses; h++) {
                if (!hasBit(used, h)) {
                    step(size, h, post.due[h]);
                    goOn(post, size + 1, used | 1 << h);
                }
            }
        }

        void step(int size, int h, int due) {
            int from = size == 0 ? 0 : path[size - 1];
            int hour = hours[size] + Math.abs(h - from);
            boolean some = due > 0 && hour < HOURS && hasBit(free[h], hour);
            path[size] = h;
            hours[size + 1] = hour;
            letters[size + 1] = some ? letters[size] + due : letters[size];
            served[size + 1] = some ? served[size] + 1 : served[size];
            lastHours[size + 1] = some ? hour : lastHours[size];
        }

        void weigh(int size) {
            if (letters[size] > mostLetters) {
                mostLetters = letters[size];
                soonest = lastHours[size];
                richestSize = size;
                System.arraycopy(path, 0, richest, 0, size);
            } else if (letters[size] == mostLetters) {
                soonest = Math.min(soonest, lastHours[size]);
            }
            if (served[size] > mostServed) {
                mostServed = served[size];
                widestRounds = 0;
            }
            if (served[size] == mostServed) {
                widestRounds++;
            }
        }
    }
}
