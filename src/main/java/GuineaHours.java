import java.util.Arrays;

/** A town with a guinea that must change hands each hour; the promises of its document are kept here. */
public final class GuineaHours {
    public static final int BAD = -1, FULL = -2, FINDING = -3, STATE = -4, SPENT = -6, NONE = -9;

    private static final int NOTHING = 1, BEYOND = 2, UNLIKE = 3, NOUGHT = 4, SIZE = 5, MOST_FINDINGS = 5;
    private static final int MOST_ROWS = 6, ROW_SIZE = 40;
    private static final int MOST_TEXTS = 4, TEXT_SIZE = 80, BLANK = 32;
    private static final int MOST_PEOPLE = 7, MOST_HOURS = 5, MOST_HANDS = 6;
    private static final int MOST_KEPT = 3, MOST_SIGHTS = 8, MOST_TIMES = 5;
    private static final int PRIZE = 9, ALL_SHARES = 9;
    private static final int MISSING = -1, NOBODY = -1;
    private static final int PROUD = 1, SHY = 2, ELDER = 3, GOOSE = 4, GREAT = 5;
    private static final byte[] KIND_LETTERS = {109, 112, 115, 101, 103, 116};
    private static final int[] KIND_EXTRA = {0, 0, 0, 1, 0, 2};
    private static final int LOT_FACTOR = 48271, LOT_MODULUS = 2147483647;

    private final int[][] rows = new int[MOST_ROWS][ROW_SIZE];
    private final int[] rowSizes = new int[MOST_ROWS];
    private final byte[][] texts = new byte[MOST_TEXTS][TEXT_SIZE];
    private final int[] textSizes = new int[MOST_TEXTS];
    private Town town = new Town();
    private Town draft = new Town();
    private final Day today = new Day();
    private final Day[] keptDays = new Day[MOST_KEPT];
    private final Sights sights = new Sights();
    private final Walk walk = new Walk(town);
    private final Walk past = new Walk(town);
    private final Values values = new Values(town);
    private final Chances chances = new Chances(town);
    private final Pairs pairs = new Pairs();
    private int askedLast = 0;
    private long upperLast = 0;
    private long lowerLast = 1;
    private int findingLast = 0;
    private final int[] findingCounts = new int[MOST_FINDINGS + 1];

    public GuineaHours() {
        Arrays.fill(rowSizes, MISSING);
        Arrays.fill(textSizes, MISSING);
        for (int k = 0; k < MOST_KEPT; k++) {
            keptDays[k] = new Day();
        }
    }

    // ---- 1 rows, texts, towns

    public int row(int r, int n) {
        if (!isRow(r) || n > ROW_SIZE) {
            return BAD;
        }
        if (n < 0) {
            return found(SIZE);
        }
        makeRow(r, n);
        return n;
    }

    public int lay(int r, int i, int v) {
        int refused = refusePlace(r, i);
        if (refused != 0) {
            return refused;
        }
        askedLast = rows[r][i];
        rows[r][i] = v;
        return 1;
    }

    public int at(int r, int i) {
        int refused = refusePlace(r, i);
        if (refused != 0) {
            return refused;
        }
        askedLast = rows[r][i];
        return 1;
    }

    public int tear(int r) {
        int refused = refuseRow(r);
        if (refused != 0) {
            return refused;
        }
        rowSizes[r] = MISSING;
        return 1;
    }

    public int copy(int r, int i, int to, int j, int n) {
        if (!isRow(r) || !isRow(to)) {
            return BAD;
        }
        if (n < 0) {
            return found(SIZE);
        }
        if (rowSizes[r] < 0 || rowSizes[to] < 0) {
            return found(NOTHING);
        }
        if (!hasPlaces(rowSizes[r], i, n) || !hasPlaces(rowSizes[to], j, n)) {
            return found(BEYOND);
        }
        System.arraycopy(rows[r], i, rows[to], j, n);
        return 1;
    }

    public int mean(int r) {
        int refused = refuseRow(r);
        if (refused != 0) {
            return refused;
        }
        int size = rowSizes[r];
        if (size <= 0) {
            return found(NOUGHT);
        }
        long sum = 0;
        for (int i = 0; i < size; i++) {
            sum += rows[r][i];
        }
        askedLast = (int) (sum / size);
        return 1;
    }

    public int text(int t, int n) {
        if (!isText(t) || n > TEXT_SIZE) {
            return BAD;
        }
        if (n < 0) {
            return found(SIZE);
        }
        Arrays.fill(texts[t], (byte) BLANK);
        textSizes[t] = n;
        return n;
    }

    public int put(int t, int i, int v) {
        int refused = refuseText(t);
        if (refused != 0) {
            return refused;
        }
        if (i < 0 || i >= textSizes[t]) {
            return found(BEYOND);
        }
        int before = texts[t][i];
        texts[t][i] = (byte) v;
        return before + 1000;
    }

    public int fault(int t) {
        int refused = refuseText(t);
        if (refused != 0) {
            return refused;
        }
        return draft.readText(texts[t], textSizes[t]);
    }

    public int town(int t) {
        int refused = refuseText(t);
        if (refused != 0) {
            return refused;
        }
        if (draft.readText(texts[t], textSizes[t]) != NONE) {
            return STATE;
        }
        Town before = town;
        town = draft;
        draft = before;
        startTown();
        return town.people;
    }

    public int person(int x, int what) {
        if (!town.isOne(x) || what < 0 || what > 2) {
            return BAD;
        }
        askedLast = aboutPerson(x, what);
        return 1;
    }

    public int place(int x, int hour) {
        if (!town.isOne(x) || !town.isHour(hour)) {
            return BAD;
        }
        askedLast = town.spotOf(x, hour);
        return 1;
    }

    public int mark(int x, int kind) {
        if (!town.isOne(x) || kind < PROUD || kind > GREAT) {
            return BAD;
        }
        if (!town.isOfKind(x, kind)) {
            return found(UNLIKE);
        }
        switch (kind) {
            case PROUD:
                return x;
            case SHY:
                return town.hoursInPair(x);
            case ELDER:
                return town.limitOf(x, today.times);
            case GOOSE:
                return town.people > 1 ? town.nextTo(x) : NONE;
            default:
                return town.countKind(GOOSE);
        }
    }

    public int times(int v) {
        if (v < 1 || v > MOST_TIMES) {
            return BAD;
        }
        int before = today.times;
        today.times = v;
        sights.known = false;
        return before;
    }

    public int back(int v) {
        if (v < 0 || v > 1) {
            return BAD;
        }
        int before = today.back;
        today.back = v;
        sights.known = false;
        return before;
    }

    public int may(int x, int hour) {
        if (!town.isOne(x) || !town.isHour(hour)) {
            return BAD;
        }
        return town.takersOf(x, hour);
    }

    // ---- 2 days

    public int begin(int x) {
        if (!town.isOne(x) || town.hours == 0) {
            return BAD;
        }
        today.startWith(x);
        return Integer.bitCount(town.takersOf(x, 0));
    }

    public int give(int y) {
        if (!town.isOne(y)) {
            return BAD;
        }
        if (!today.isBegun() || (openToday() >> y & 1) == 0) {
            return STATE;
        }
        today.passTo(y);
        return today.hour;
    }

    public int undo() {
        if (today.hour <= 0) {
            return STATE;
        }
        today.hour--;
        return today.hour;
    }

    public int now() {
        if (!today.isBegun()) {
            return STATE;
        }
        askedLast = today.hour;
        return today.holder();
    }

    public int often(int x) {
        if (!town.isOne(x)) {
            return BAD;
        }
        if (!today.isBegun()) {
            return STATE;
        }
        return today.timesHadBy(x);
    }

    public int can() {
        if (!today.isBegun()) {
            return STATE;
        }
        return openToday();
    }

    public int ends() {
        if (!today.isBegun()) {
            return STATE;
        }
        walk.prepare(town, today.times, today.back);
        walk.follow(today);
        int goings = walk.countOn(today.hour);
        askedLast = walk.heldIn(town.hours);
        return goings;
    }

    public int keep(int k) {
        if (!isKeptPlace(k)) {
            return BAD;
        }
        if (!today.isBegun()) {
            return STATE;
        }
        keptDays[k].becomeLike(today);
        return today.hour;
    }

    public int on(int k) {
        if (!isKeptPlace(k)) {
            return BAD;
        }
        if (!keptDays[k].isBegun()) {
            return found(NOTHING);
        }
        today.becomeLike(keptDays[k]);
        sights.known = false;
        return today.hour;
    }

    // ---- 3 rows of hands

    public int judge(int r) {
        if (!isRow(r)) {
            return BAD;
        }
        if (town.hours == 0) {
            return STATE;
        }
        if (rowSizes[r] < 0) {
            return found(NOTHING);
        }
        if (rowSizes[r] != town.hours + 1) {
            return found(SIZE);
        }
        for (int h = 0; h <= town.hours; h++) {
            if (!town.isOne(rows[r][h])) {
                return found(UNLIKE);
            }
        }
        return judgeHands(rows[r]);
    }

    public int ways(int x, int y) {
        if (!town.isOne(x) || !town.isOne(y)) {
            return BAD;
        }
        return countWays(x, y);
    }

    public int way(int x, int y, int r) {
        if (!town.isOne(x) || !town.isOne(y) || !isRow(r)) {
            return BAD;
        }
        if (!findWay(x, y, today.times)) {
            return NONE;
        }
        makeRow(r, town.hours + 1);
        walk.copyHands(rows[r]);
        return 1;
    }

    public int bars(int x, int y) {
        if (!town.isOne(x) || !town.isOne(y)) {
            return BAD;
        }
        countWays(x, y);
        return walk.common & ~(1 << x) & ~(1 << y);
    }

    public int least(int x, int y) {
        if (!town.isOne(x) || !town.isOne(y)) {
            return BAD;
        }
        for (int v = 1; v <= MOST_TIMES; v++) {
            if (findWay(x, y, v)) {
                return v;
            }
        }
        return NONE;
    }

    // ---- 4 worth, sets

    public int worth(int x, int hour) {
        if (!town.isOne(x) || !town.isMoment(hour)) {
            return BAD;
        }
        values.settle(town, hour);
        askedLast = values.bestTaker(x, hour);
        return values.valueTo(x, hour);
    }

    public int best(int hour) {
        if (!town.isMoment(hour)) {
            return BAD;
        }
        if (town.people == 0) {
            return STATE;
        }
        values.settle(town, hour);
        int first = 0;
        for (int x = 1; x < town.people; x++) {
            if (values.valueTo(x, hour) > values.valueTo(first, hour)) {
                first = x;
            }
        }
        askedLast = values.valueTo(first, hour);
        return first;
    }

    public int keeps(int set, int hour) {
        if (set < 0 || set > town.everyone() || !town.isMoment(hour)) {
            return BAD;
        }
        if (set == 0) {
            return NONE;
        }
        int until = town.hours;
        while (until > hour && town.keepersOf(set, hour, until) == 0) {
            until--;
        }
        askedLast = town.keepersOf(set, hour, until);
        return until - hour;
    }

    public int fewest(int hour) {
        if (!town.isMoment(hour)) {
            return BAD;
        }
        int least = 0;
        for (int set = 1; set <= town.everyone(); set++) {
            boolean fewer = least == 0 || Integer.bitCount(set) < Integer.bitCount(least);
            if (fewer && town.keepersOf(set, hour, town.hours) != 0) {
                least = set;
            }
        }
        if (least == 0) {
            return NONE;
        }
        askedLast = least;
        return Integer.bitCount(least);
    }

    public int leaves(int r, int hour) {
        if (!isRow(r) || !town.isMoment(hour)) {
            return BAD;
        }
        if (town.people == 0) {
            return STATE;
        }
        if (rowSizes[r] < 0) {
            return found(NOTHING);
        }
        if (rowSizes[r] != town.people) {
            return found(SIZE);
        }
        if (!areShares(rows[r])) {
            return found(UNLIKE);
        }
        for (int set = 1; set <= town.everyone(); set++) {
            if (shareOf(rows[r], set) < ALL_SHARES && town.keepersOf(set, hour, town.hours) != 0) {
                return set;
            }
        }
        return 0;
    }

    // ---- 5 sights

    public int sight(int hour, int x, int is) {
        if (!town.isMoment(hour) || !town.isOne(x) || is < 0 || is > 1) {
            return BAD;
        }
        if (sights.count >= MOST_SIGHTS) {
            return FULL;
        }
        sights.addOne(hour, x, is);
        return sights.count - 1;
    }

    public int forget(int n) {
        if (n < 0 || n > sights.count) {
            return BAD;
        }
        int forgotten = sights.count - n;
        sights.cutTo(n);
        return forgotten;
    }

    public int fits() {
        if (town.hours == 0) {
            return STATE;
        }
        seekPast();
        askedLast = past.heldIn(0);
        return past.total;
    }

    public int where(int hour) {
        int refused = refusePast(hour);
        if (refused != 0) {
            return refused;
        }
        int bits = past.heldIn(hour);
        askedLast = NONE;
        for (int x = 0; x < town.people; x++) {
            if (bits == 1 << x) {
                askedLast = x;
            }
        }
        return bits;
    }

    public int ask(int hour) {
        int refused = refusePast(hour);
        if (refused != 0) {
            return refused;
        }
        int first = 0;
        for (int x = 1; x < town.people; x++) {
            if (past.leftAtMost(hour, x) < past.leftAtMost(hour, first)) {
                first = x;
            }
        }
        askedLast = past.leftAtMost(hour, first);
        return first;
    }

    // ---- 6 chance, two, lots

    public int odds(int x, int hour, int y) {
        if (!town.isOne(x) || !town.isMoment(hour) || !town.isOne(y)) {
            return BAD;
        }
        chances.settle(town, hour, y);
        tellFraction(chances.shareOf(x, hour), chances.whole(hour));
        return 1;
    }

    public int lost(int x, int hour) {
        if (!town.isOne(x) || !town.isMoment(hour)) {
            return BAD;
        }
        chances.settle(town, hour, NOBODY);
        tellFraction(chances.shareOf(x, hour), chances.whole(hour));
        return 1;
    }

    public int send(int x, int hour, int y) {
        if (!town.isOne(x) || !town.isHour(hour) || !town.isOne(y)) {
            return BAD;
        }
        chances.settle(town, hour + 1, y);
        int takers = town.takersOf(x, hour);
        int first = NONE;
        for (int z = 0; z < town.people; z++) {
            boolean takes = (takers >> z & 1) != 0;
            if (takes && (first == NONE || chances.shareOf(z, hour + 1) > chances.shareOf(first, hour + 1))) {
                first = z;
            }
        }
        if (first != NONE) {
            tellFraction(chances.shareOf(first, hour + 1), chances.whole(hour + 1));
        }
        return first;
    }

    public int two(int x, int y) {
        if (!town.isOne(x) || !town.isOne(y) || x == y) {
            return BAD;
        }
        pairs.startWith(x, y);
        int hour = 0;
        while (hour < town.hours && pairs.giveBoth(town, hour)) {
            hour++;
        }
        return hour;
    }

    public int lots(int x, int seed) {
        if (!town.isOne(x) || town.hours == 0 || seed < 1 || seed >= LOT_MODULUS) {
            return BAD;
        }
        today.startWith(x);
        long number = seed;
        for (int h = 0; h < town.hours; h++) {
            number = number * LOT_FACTOR % LOT_MODULUS;
            int open = openToday();
            if (open == 0) {
                return h;
            }
            today.passTo(bitAt(open, (int) (number % Integer.bitCount(open))));
        }
        return today.hour;
    }

    // ---- 7 what is told

    public int asked() {
        return askedLast;
    }

    public long upper() {
        return upperLast;
    }

    public long lower() {
        return lowerLast;
    }

    public int count(int what) {
        switch (what) {
            case 0:
                return town.people;
            case 1:
                return town.hours;
            case 2:
                return today.isBegun() ? today.hour : NONE;
            case 3:
                return town.countKind(ELDER);
            case 4:
                return sights.count;
            case 5:
                return countKept();
            case 6:
                return countThere(rowSizes);
            case 7:
                return countThere(textSizes);
            default:
                return BAD;
        }
    }

    public int finding() {
        return findingLast;
    }

    public int findings(int f) {
        if (f < NOTHING || f > SIZE) {
            return BAD;
        }
        return findingCounts[f];
    }

    public long digest() {
        long h = 17;
        for (int what = 0; what <= 7; what++) {
            h = 31 * h + count(what);
        }
        h = 31 * h + today.times;
        h = 31 * h + today.back;
        h = digestPeople(h);
        for (int i = 0; i <= today.hour && i < MOST_HANDS; i++) {
            h = 31 * h + today.hands[i];
        }
        for (int n = 0; n < sights.count && n < MOST_SIGHTS; n++) {
            h = 31 * h + sights.hours[n];
            h = 31 * h + sights.ones[n];
            h = 31 * h + sights.truths[n];
        }
        for (int k = 0; k < MOST_KEPT; k++) {
            h = 31 * h + keptDays[k].hour;
        }
        return digestTexts(digestRows(h));
    }

    // ---- what the calls share

    private int found(int what) {
        findingLast = what;
        if (what >= NOTHING && what <= SIZE) {
            findingCounts[what]++;
        }
        return FINDING;
    }

    private static boolean isRow(int r) {
        return r >= 0 && r < MOST_ROWS;
    }

    private static boolean isText(int t) {
        return t >= 0 && t < MOST_TEXTS;
    }

    private static boolean isKeptPlace(int k) {
        return k >= 0 && k < MOST_KEPT;
    }

    /** Why a ROW can't be used: 0 if it can. */
    private int refuseRow(int r) {
        if (!isRow(r)) {
            return BAD;
        }
        return rowSizes[r] < 0 ? found(NOTHING) : 0;
    }

    private int refusePlace(int r, int i) {
        int refused = refuseRow(r);
        if (refused != 0) {
            return refused;
        }
        return i < 0 || i >= rowSizes[r] ? found(BEYOND) : 0;
    }

    private int refuseText(int t) {
        if (!isText(t)) {
            return BAD;
        }
        return textSizes[t] < 0 ? found(NOTHING) : 0;
    }

    /** Subtracts instead of adding: i + n could wrap around. */
    private static boolean hasPlaces(int size, int i, int n) {
        return i >= 0 && i <= size && n >= 0 && n <= size - i;
    }

    private void makeRow(int r, int n) {
        Arrays.fill(rows[r], 0);
        rowSizes[r] = n;
    }

    private void startTown() {
        today.hour = MISSING;
        sights.cutTo(0);
        for (int k = 0; k < MOST_KEPT; k++) {
            keptDays[k].hour = MISSING;
        }
    }

    private int aboutPerson(int x, int what) {
        if (what == 0) {
            return town.kindOf(x);
        }
        return what == 1 ? town.feeOf(x) : town.limitOf(x, today.times);
    }

    /** To whom it can be given by THE LAW in the DAY's HOUR. */
    private int openToday() {
        walk.prepare(town, today.times, today.back);
        walk.follow(today);
        return walk.openIn(today.hour);
    }

    private int judgeHands(int[] hands) {
        walk.prepare(town, today.times, today.back);
        walk.take(0, hands[0]);
        for (int h = 0; h < town.hours && h + 1 < hands.length; h++) {
            int why = walk.against(h, hands[h + 1]);
            if (why != 0) {
                askedLast = why;
                return h;
            }
            walk.take(h + 1, hands[h + 1]);
        }
        askedLast = 0;
        return town.hours;
    }

    private int countWays(int x, int y) {
        walk.prepare(town, today.times, today.back);
        walk.narrow(0, 1 << x);
        walk.narrow(town.hours, 1 << y);
        walk.countAll();
        return walk.total;
    }

    /** Whether there is a way by these TIMES; the walk's hands are the first one then. */
    private boolean findWay(int x, int y, int v) {
        walk.prepare(town, v, today.back);
        walk.firstOnly = true;
        walk.narrow(0, 1 << x);
        walk.narrow(town.hours, 1 << y);
        walk.countAll();
        return walk.total > 0;
    }

    private boolean areShares(int[] shares) {
        for (int x = 0; x < town.people; x++) {
            if (shares[x] < 0 || shares[x] > ALL_SHARES) {
                return false;
            }
        }
        return shareOf(shares, town.everyone()) == ALL_SHARES;
    }

    private int shareOf(int[] shares, int set) {
        int sum = 0;
        for (int x = 0; x < town.people; x++) {
            if ((set >> x & 1) != 0) {
                sum += shares[x];
            }
        }
        return sum;
    }

    /** Seeks all that fit only if something has changed since: the search is the dearest of all calls. */
    private void seekPast() {
        if (sights.known) {
            return;
        }
        past.prepare(town, today.times, today.back);
        for (int n = 0; n < sights.count && n < MOST_SIGHTS; n++) {
            int one = 1 << sights.ones[n];
            past.narrow(sights.hours[n], sights.truths[n] == 1 ? one : ~one);
        }
        past.countAll();
        sights.known = true;
    }

    private int refusePast(int hour) {
        if (!town.isMoment(hour)) {
            return BAD;
        }
        if (town.hours == 0) {
            return STATE;
        }
        seekPast();
        return past.total == 0 ? found(NOUGHT) : 0;
    }

    private void tellFraction(long share, long whole) {
        long divisor = commonDivisor(share, whole);
        if (divisor > 0) {
            upperLast = share / divisor;
            lowerLast = whole / divisor;
        }
    }

    private static long commonDivisor(long share, long whole) {
        long a = whole;
        long b = share;
        for (int step = 0; step < 1000 && b > 0; step++) {
            long rest = a % b;
            a = b;
            b = rest;
        }
        return a;
    }

    /** The place of the bit that has so many set ones below it. */
    private static int bitAt(int bits, int below) {
        int left = below;
        for (int x = 0; x < MOST_PEOPLE; x++) {
            if ((bits >> x & 1) != 0) {
                if (left == 0) {
                    return x;
                }
                left--;
            }
        }
        return 0;
    }

    private int countKept() {
        int sum = 0;
        for (int k = 0; k < MOST_KEPT; k++) {
            if (keptDays[k].isBegun()) {
                sum++;
            }
        }
        return sum;
    }

    private static int countThere(int[] sizes) {
        int sum = 0;
        for (int i = 0; i < sizes.length; i++) {
            if (sizes[i] >= 0) {
                sum++;
            }
        }
        return sum;
    }

    private long digestPeople(long before) {
        long h = before;
        for (int x = 0; x < town.people; x++) {
            for (int what = 0; what <= 2; what++) {
                h = 31 * h + aboutPerson(x, what);
            }
            for (int hour = 0; hour < town.hours; hour++) {
                h = 31 * h + town.spotOf(x, hour);
            }
        }
        return h;
    }

    private long digestRows(long before) {
        long h = before;
        for (int r = 0; r < MOST_ROWS; r++) {
            h = 31 * h + rowSizes[r];
            for (int i = 0; i < rowSizes[r] && i < ROW_SIZE; i++) {
                h = 31 * h + rows[r][i];
            }
        }
        return h;
    }

    private long digestTexts(long before) {
        long h = before;
        for (int t = 0; t < MOST_TEXTS; t++) {
            h = 31 * h + textSizes[t];
            for (int i = 0; i < textSizes[t] && i < TEXT_SIZE; i++) {
                h = 31 * h + texts[t][i];
            }
        }
        return h;
    }

    /** HOURS and PEOPLE as a TEXT tells them. */
    private static final class Town {
        int hours = 0;
        int people = 0;
        private final int[] kinds = new int[MOST_PEOPLE];
        private final int[] fees = new int[MOST_PEOPLE];
        private final int[] spots = new int[MOST_PEOPLE * MOST_HOURS];
        private final int[] takers = new int[MOST_PEOPLE * MOST_HOURS];

        boolean isOne(int x) {
            return x >= 0 && x < people;
        }

        boolean isHour(int hour) {
            return hour >= 0 && hour < hours;
        }

        /** An HOUR or MIDNIGHT. */
        boolean isMoment(int hour) {
            return hour >= 0 && hour <= hours;
        }

        int everyone() {
            return (1 << people) - 1;
        }

        int kindOf(int x) {
            return isOne(x) ? kinds[x] : 0;
        }

        int feeOf(int x) {
            return isOne(x) ? fees[x] : 0;
        }

        int spotOf(int x, int hour) {
            return x >= 0 && x < people && hour >= 0 && hour < hours ? spots[x * MOST_HOURS + hour] : NONE;
        }

        /** To whom one MAY give it. */
        int takersOf(int x, int hour) {
            return x >= 0 && x < people && hour >= 0 && hour < hours ? takers[x * MOST_HOURS + hour] : 0;
        }

        int limitOf(int x, int times) {
            int kind = kindOf(x);
            return kind >= 0 && kind < KIND_EXTRA.length ? times + KIND_EXTRA[kind] : times;
        }

        /** A GREAT one is an ELDER, too. */
        boolean isOfKind(int x, int kind) {
            int own = kindOf(x);
            return own == kind || own == GREAT && kind == ELDER;
        }

        int countKind(int kind) {
            int sum = 0;
            for (int x = 0; x < people; x++) {
                if (isOfKind(x, kind)) {
                    sum++;
                }
            }
            return sum;
        }

        int nextTo(int x) {
            return x + 1 < people ? x + 1 : 0;
        }

        boolean areTogether(int x, int y, int hour) {
            int spot = spotOf(x, hour);
            return spot != NONE && spot == spotOf(y, hour);
        }

        private int countTogether(int x, int hour) {
            int sum = 0;
            for (int y = 0; y < people; y++) {
                if (areTogether(x, y, hour)) {
                    sum++;
                }
            }
            return sum;
        }

        int hoursInPair(int x) {
            int sum = 0;
            for (int hour = 0; hour < hours; hour++) {
                if (countTogether(x, hour) == 2) {
                    sum++;
                }
            }
            return sum;
        }

        /** Who of a set can have it in an HOUR so that it stays within the set until another one. */
        int keepersOf(int set, int from, int until) {
            int able = set;
            for (int hour = until - 1; hour >= from; hour--) {
                able = giversTo(able, set, hour);
            }
            return able;
        }

        /** Who of a set MAY give it to one of the others in an HOUR. */
        int giversTo(int others, int set, int hour) {
            int givers = 0;
            for (int x = 0; x < people; x++) {
                if ((set >> x & 1) != 0 && (takersOf(x, hour) & others) != 0) {
                    givers |= 1 << x;
                }
            }
            return givers;
        }

        /** Becomes the TOWN of a TEXT: NONE, or the FAULT. */
        int readText(byte[] signs, int size) {
            hours = 0;
            people = 0;
            int end = Math.min(size, signs.length);
            int i = skipBlanks(signs, 0, end);
            if (i >= end || signs[i] != 104) {
                return i;
            }
            i++;
            if (i >= end || signs[i] < 49 || signs[i] > 53) {
                return i;
            }
            hours = signs[i] - 48;
            i = skipBlanks(signs, i + 1, end);
            for (int n = 0; n <= MOST_PEOPLE && i < end; n++) {
                int faulty = readPerson(signs, i, end);
                if (faulty != NONE) {
                    return faulty;
                }
                i = skipBlanks(signs, i + 2 + hours, end);
            }
            fillTakers();
            return NONE;
        }

        private static int skipBlanks(byte[] signs, int from, int end) {
            int i = from;
            while (i < end && signs[i] == BLANK) {
                i++;
            }
            return i;
        }

        private int readPerson(byte[] signs, int from, int end) {
            int kind = kindBy(signs[from]);
            if (kind == NONE || people >= MOST_PEOPLE) {
                return from;
            }
            int i = from + 1;
            if (i >= end || signs[i] < 48 || signs[i] > 57) {
                return i;
            }
            kinds[people] = kind;
            fees[people] = signs[i] - 48;
            for (int hour = 0; hour < hours; hour++) {
                i++;
                if (i >= end || signs[i] != 45 && (signs[i] < 48 || signs[i] > 53)) {
                    return i;
                }
                spots[people * MOST_HOURS + hour] = signs[i] == 45 ? NONE : signs[i] - 48;
            }
            people++;
            return NONE;
        }

        private static int kindBy(int letter) {
            for (int kind = 0; kind < KIND_LETTERS.length; kind++) {
                if (KIND_LETTERS[kind] == letter) {
                    return kind;
                }
            }
            return NONE;
        }

        private void fillTakers() {
            for (int x = 0; x < people; x++) {
                for (int hour = 0; hour < hours; hour++) {
                    int bits = 0;
                    for (int y = 0; y < people; y++) {
                        if (allows(x, y, hour)) {
                            bits |= 1 << y;
                        }
                    }
                    takers[x * MOST_HOURS + hour] = bits;
                }
            }
        }

        private boolean allows(int x, int y, int hour) {
            if (x == y || !areTogether(x, y, hour)) {
                return false;
            }
            if (kindOf(x) == GOOSE && (y != nextTo(x) || kindOf(y) == GREAT)) {
                return false;
            }
            if (kindOf(y) == PROUD && x > y) {
                return false;
            }
            return kindOf(y) != SHY || countTogether(y, hour) == 2;
        }
    }

    /** Who had it one behind the other, with TIMES and BACK; no DAY is begun while its HOUR is MISSING. */
    private static final class Day {
        int times = 3;
        int back = 0;
        int hour = MISSING;
        final int[] hands = new int[MOST_HANDS];

        boolean isBegun() {
            return hour >= 0;
        }

        void startWith(int x) {
            hour = 0;
            hands[0] = x;
        }

        void passTo(int y) {
            if (hour >= 0 && hour + 1 < MOST_HANDS) {
                hour++;
                hands[hour] = y;
            }
        }

        int holder() {
            return hour >= 0 && hour < MOST_HANDS ? hands[hour] : NONE;
        }

        int timesHadBy(int x) {
            int sum = 0;
            for (int i = 0; i <= hour && i < MOST_HANDS; i++) {
                if (hands[i] == x) {
                    sum++;
                }
            }
            return sum;
        }

        void becomeLike(Day other) {
            times = other.times;
            back = other.back;
            hour = other.hour;
            System.arraycopy(other.hands, 0, hands, 0, MOST_HANDS);
        }
    }

    /** SIGHTS; known tells whether all that fit have been sought since the last change. */
    private static final class Sights {
        int count = 0;
        boolean known = false;
        final int[] hours = new int[MOST_SIGHTS];
        final int[] ones = new int[MOST_SIGHTS];
        final int[] truths = new int[MOST_SIGHTS];

        void addOne(int hour, int x, int is) {
            if (count >= 0 && count < MOST_SIGHTS) {
                hours[count] = hour;
                ones[count] = x;
                truths[count] = is;
                count++;
            }
            known = false;
        }

        void cutTo(int n) {
            count = n;
            known = false;
        }
    }

    /** Goes through ROWS of HANDS by THE LAW, the first by numbers first, and counts them by HOURS and hands. */
    private static final class Walk {
        boolean firstOnly = false;
        int total = 0;
        int common = 0;
        private Town ground;
        private boolean notBack = false;
        private int full = 0;
        private final int[] limits = new int[MOST_PEOPLE];
        private final int[] had = new int[MOST_PEOPLE];
        private final int[] hands = new int[MOST_HANDS];
        private final int[] within = new int[MOST_HANDS];
        private final int[] tally = new int[MOST_HANDS * MOST_PEOPLE];

        Walk(Town firstGround) {
            ground = firstGround;
        }

        void prepare(Town newGround, int newTimes, int newBack) {
            ground = newGround;
            notBack = newBack != 0;
            firstOnly = false;
            total = 0;
            common = ground.everyone();
            full = 0;
            for (int x = 0; x < MOST_PEOPLE; x++) {
                limits[x] = ground.limitOf(x, newTimes);
                had[x] = 0;
            }
            Arrays.fill(within, ground.everyone());
            Arrays.fill(tally, 0);
        }

        /** Only these can have it in an HOUR. */
        void narrow(int hour, int bits) {
            if (hour >= 0 && hour < MOST_HANDS) {
                within[hour] &= bits;
            }
        }

        void follow(Day day) {
            for (int h = 0; h <= day.hour && h < MOST_HANDS; h++) {
                take(h, day.hands[h]);
            }
        }

        void take(int hour, int x) {
            if (hour < 0 || hour >= MOST_HANDS || !ground.isOne(x)) {
                return;
            }
            hands[hour] = x;
            had[x]++;
            if (had[x] >= limits[x]) {
                full |= 1 << x;
            }
        }

        private void untake(int x) {
            if (!ground.isOne(x)) {
                return;
            }
            had[x]--;
            if (had[x] < limits[x]) {
                full &= ~(1 << x);
            }
        }

        /** To whom it can be given by THE LAW from the hand of an HOUR. */
        int openIn(int hour) {
            if (!ground.isHour(hour)) {
                return 0;
            }
            return ground.takersOf(hands[hour], hour) & ~barredIn(hour) & ~full;
        }

        /** Whom BACK bars. */
        private int barredIn(int hour) {
            return notBack && hour >= 1 && hour < MOST_HANDS ? 1 << hands[hour - 1] : 0;
        }

        /** What of THE LAW is against giving it: 0 nothing, 1 one MAY not, 2 BACK, 3 too often. */
        int against(int hour, int y) {
            if (!ground.isHour(hour) || (ground.takersOf(hands[hour], hour) >> y & 1) == 0) {
                return 1;
            }
            if ((barredIn(hour) >> y & 1) != 0) {
                return 2;
            }
            return (full >> y & 1) != 0 ? 3 : 0;
        }

        /** Leaves out hands from which it can't come to MIDNIGHT, so that few goings end in vain. */
        private void trim() {
            for (int hour = ground.hours - 1; hour >= 0; hour--) {
                within[hour] = ground.giversTo(within[hour + 1], within[hour], hour);
            }
        }

        void countAll() {
            trim();
            for (int x = 0; x < ground.people && !(firstOnly && total > 0); x++) {
                if ((within[0] >> x & 1) != 0) {
                    take(0, x);
                    int goings = rowsBehind(this, 0, 1 << x);
                    untake(x);
                    addTo(0, x, goings);
                    total += goings;
                }
            }
        }

        /** Counts goings on from the hand of an HOUR, those ahead of it being taken already. */
        int countOn(int hour) {
            if (hour < 0 || hour >= MOST_HANDS) {
                return 0;
            }
            trim();
            int goings = rowsBehind(this, hour, 1 << hands[hour]);
            addTo(hour, hands[hour], goings);
            return goings;
        }

        private void addTo(int hour, int x, int goings) {
            if (hour >= 0 && hour < MOST_HANDS && ground.isOne(x)) {
                tally[hour * MOST_PEOPLE + x] += goings;
            }
        }

        private static int rowsBehind(Walk w, int hour, int seen) {
            if (hour >= w.ground.hours || hour + 1 >= MOST_HANDS) {
                return 1;
            }
            int open = w.openIn(hour) & w.within[hour + 1];
            if (hour + 1 == w.ground.hours) {
                return w.rowsEnding(open, seen);
            }
            int sum = 0;
            for (int y = 0; y < w.ground.people && open >> y != 0; y++) {
                if ((open >> y & 1) != 0) {
                    w.take(hour + 1, y);
                    int more = rowsBehind(w, hour + 1, seen | 1 << y);
                    w.untake(y);
                    w.addTo(hour + 1, y, more);
                    sum += more;
                }
                if (w.firstOnly && sum > 0) {
                    return sum;
                }
            }
            return sum;
        }

        /** The last hands are not taken one by one: they are by far the most, and nothing is given behind them. */
        private int rowsEnding(int open, int seen) {
            int last = ground.hours;
            for (int y = 0; y < ground.people && last < MOST_HANDS; y++) {
                if ((open >> y & 1) != 0) {
                    hands[last] = y;
                    tally[last * MOST_PEOPLE + y]++;
                    common &= seen | 1 << y;
                    if (firstOnly) {
                        return 1;
                    }
                }
            }
            return Integer.bitCount(open);
        }

        void copyHands(int[] to) {
            for (int h = 0; h <= ground.hours && h < MOST_HANDS && h < to.length; h++) {
                to[h] = hands[h];
            }
        }

        /** Who has it in an HOUR in one of the counted ROWS. */
        int heldIn(int hour) {
            int bits = 0;
            for (int x = 0; x < ground.people; x++) {
                if (tallyOf(hour, x) > 0) {
                    bits |= 1 << x;
                }
            }
            return bits;
        }

        /** How many ROWS are left at most, whether one had it in an HOUR or not. */
        int leftAtMost(int hour, int x) {
            int held = tallyOf(hour, x);
            return Math.max(held, total - held);
        }

        private int tallyOf(int hour, int x) {
            boolean there = hour >= 0 && hour < MOST_HANDS && ground.isOne(x);
            return there ? tally[hour * MOST_PEOPLE + x] : 0;
        }
    }

    /** WORTH of it by HOURS, from MIDNIGHT back. */
    private static final class Values {
        private Town ground;
        private final int[] table = new int[MOST_HANDS * MOST_PEOPLE];

        Values(Town firstGround) {
            ground = firstGround;
        }

        void settle(Town newGround, int from) {
            ground = newGround;
            for (int hour = ground.hours; hour >= from && hour >= 0; hour--) {
                for (int x = 0; x < ground.people; x++) {
                    int taker = bestTaker(x, hour);
                    int most = taker == NONE ? 0 : valueByGiving(taker, hour);
                    table[hour * MOST_PEOPLE + x] = hour == ground.hours ? PRIZE : most;
                }
            }
        }

        int valueTo(int x, int hour) {
            return ground.isMoment(hour) && ground.isOne(x) ? table[hour * MOST_PEOPLE + x] : 0;
        }

        private int valueByGiving(int y, int hour) {
            return Math.max(0, valueTo(y, hour + 1) - ground.feeOf(y));
        }

        /** The first to whom giving it is worth most, by the table of the next HOUR. */
        int bestTaker(int x, int hour) {
            int takers = ground.takersOf(x, hour);
            int first = NONE;
            for (int y = 0; y < ground.people; y++) {
                boolean takes = (takers >> y & 1) != 0;
                if (takes && (first == NONE || valueByGiving(y, hour) > valueByGiving(first, hour))) {
                    first = y;
                }
            }
            return first;
        }
    }

    /** Odds BY CHANCE as whole shares: each HOUR shares out 60, which 1 to 6 takers all divide. */
    private static final class Chances {
        private static final int SHARED = 60;
        private Town ground;
        private final long[] table = new long[MOST_HANDS * MOST_PEOPLE];

        Chances(Town firstGround) {
            ground = firstGround;
        }

        /** Of one's having it at MIDNIGHT; of its being LOST, if that one is NOBODY. */
        void settle(Town newGround, int from, int goal) {
            ground = newGround;
            for (int hour = ground.hours; hour >= from && hour >= 0; hour--) {
                for (int x = 0; x < ground.people; x++) {
                    long share = hour == ground.hours ? (x == goal ? 1 : 0) : shareByGiving(x, hour, goal);
                    table[hour * MOST_PEOPLE + x] = share;
                }
            }
        }

        private long shareByGiving(int x, int hour, int goal) {
            int takers = ground.takersOf(x, hour);
            int many = Integer.bitCount(takers);
            if (many == 0) {
                return goal == NOBODY ? whole(hour) : 0;
            }
            long sum = 0;
            for (int y = 0; y < ground.people; y++) {
                if ((takers >> y & 1) != 0) {
                    sum += shareOf(y, hour + 1);
                }
            }
            return sum * (SHARED / many);
        }

        long shareOf(int x, int hour) {
            return ground.isMoment(hour) && ground.isOne(x) ? table[hour * MOST_PEOPLE + x] : 0;
        }

        /** All shares together from an HOUR on. */
        long whole(int hour) {
            long product = 1;
            for (int h = hour; h < ground.hours; h++) {
                product *= SHARED;
            }
            return product;
        }
    }

    /** Who can have two guineas in an HOUR: for each one, bits of who has the other one. */
    private static final class Pairs {
        private final int[] others = new int[MOST_PEOPLE];
        private final int[] before = new int[MOST_PEOPLE];

        void startWith(int x, int y) {
            Arrays.fill(others, 0);
            if (x >= 0 && x < MOST_PEOPLE) {
                others[x] = 1 << y;
            }
        }

        /** Gives both in an HOUR in all ways: whether there is one. */
        boolean giveBoth(Town ground, int hour) {
            System.arraycopy(others, 0, before, 0, MOST_PEOPLE);
            Arrays.fill(others, 0);
            boolean given = false;
            for (int x = 0; x < ground.people; x++) {
                int takers = ground.takersOf(x, hour);
                int otherTakers = takersFromOthers(ground, hour, x);
                if (takers != 0 && otherTakers != 0) {
                    given = true;
                    addPairs(takers, otherTakers);
                }
            }
            return given;
        }

        /** To whom those can give the other one who are not where x is. */
        private int takersFromOthers(Town ground, int hour, int x) {
            int bits = 0;
            for (int y = 0; y < ground.people; y++) {
                if ((before[x] >> y & 1) != 0 && !ground.areTogether(x, y, hour)) {
                    bits |= ground.takersOf(y, hour);
                }
            }
            return bits;
        }

        private void addPairs(int takers, int otherTakers) {
            for (int x = 0; x < MOST_PEOPLE; x++) {
                if ((takers >> x & 1) != 0) {
                    others[x] |= otherTakers;
                }
            }
        }
    }
}
