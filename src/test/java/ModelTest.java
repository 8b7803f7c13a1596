import java.math.BigInteger;
import java.util.ArrayList;
import java.util.Arrays;
import java.util.HashMap;
import java.util.List;
import java.util.Map;
import java.util.Random;
import java.util.regex.Matcher;
import java.util.regex.Pattern;

/** Random runs of calls, each answer against a second model of the document that is written as plainly as can be. */
public final class ModelTest {
    private static final int BAD = -1, FULL = -2, FINDING = -3, STATE = -4, NONE = -9;
    private static final int RUNS = 4000, CALLS = 220;

    public static void main(String[] args) {
        int runs = args.length > 0 ? Integer.parseInt(args[0]) : RUNS;
        Map<String, Integer> seen = new HashMap<>();
        for (int run = 0; run < runs; run++) {
            if (!runOnce(run, seen)) {
                System.exit(1);
            }
        }
        System.out.println(runs + " runs, " + seen.size() + " kinds of answers seen, all as due");
        if (runs >= RUNS) {
            lookForGaps(seen);
        }
    }

    /** Every call has to have been answered in each of these ways, or the runs say little. */
    private static void lookForGaps(Map<String, Integer> seen) {
        String[] due = {"row FINDING", "copy FINDING", "copy good", "mean FINDING", "fault NONE", "fault good",
            "town STATE", "town good", "mark FINDING", "mark good", "give STATE", "give good", "undo good", "on good",
            "on FINDING", "judge good", "judge STATE", "judge FINDING", "ways good", "way NONE", "way good", "least NONE",
            "least good", "keeps good", "keeps NONE", "fewest good", "fewest NONE", "leaves good", "leaves FINDING",
            "leaves STATE", "sight FULL", "sight good", "forget good", "where good", "where FINDING", "where STATE",
            "ask good", "send good", "send NONE", "two good", "lots good", "best STATE", "best good"};
        boolean gap = false;
        for (String way : due) {
            if (seen.getOrDefault(way, 0) < 20) {
                System.out.println("hardly ever: " + way + " (" + seen.getOrDefault(way, 0) + ")");
                gap = true;
            }
        }
        if (gap) {
            System.exit(1);
        }
    }

    private static final String[] CALL_NAMES = {"row", "lay", "at", "tear", "copy", "mean", "text", "put", "fault", "town",
        "person", "place", "mark", "times", "back", "may", "begin", "give", "undo", "now", "often", "can", "ends",
        "keep", "on", "judge", "ways", "way", "bars", "least", "worth", "best", "keeps", "fewest", "leaves", "sight",
        "forget", "fits", "where", "ask", "odds", "lost", "send", "two", "lots", "count", "findings", "digest",
        "WRITE", "SHARES", "HANDS", "SIGHTS"};

    private static boolean runOnce(int run, Map<String, Integer> seen) {
        Random random = new Random(run);
        GuineaHours g = new GuineaHours();
        Model m = new Model();
        List<String> log = new ArrayList<>();
        boolean large = run % 40 == 0;
        if (random.nextInt(10) > 0) {
            write(random, g, m, large, log);
        }
        for (int c = 0; c < CALLS; c++) {
            String name = CALL_NAMES[random.nextInt(CALL_NAMES.length)];
            if (name.equals("WRITE")) {
                if (random.nextInt(4) == 0) {
                    write(random, g, m, large, log);
                }
                continue;
            }
            if (name.equals("SHARES") || name.equals("HANDS")) {
                fillRow(random, g, m, name, log);
                continue;
            }
            if (name.equals("SIGHTS")) {
                seeMuch(random, g, m, log);
                continue;
            }
            int[] a = arguments(random, name, m);
            long want = m.call(name, a);
            long got = call(g, name, a);
            log.add(name + Arrays.toString(a) + " = " + got);
            if (!same(g, m, got, want, log)) {
                System.out.println("run " + run + ": due is " + want);
                return false;
            }
            String kind = want == BAD ? "BAD" : want == FULL ? "FULL" : want == FINDING ? "FINDING"
                : want == STATE ? "STATE" : want == NONE ? "NONE" : "good";
            seen.merge(name + " " + kind, 1, Integer::sum);
        }
        return true;
    }

    private static boolean same(GuineaHours g, Model m, long got, long want, List<String> log) {
        boolean fine = got == want && g.asked() == m.asked && g.upper() == m.upper && g.lower() == m.lower
            && g.finding() == m.finding && g.digest() == m.digest();
        if (!fine) {
            for (String line : log) {
                System.out.println(line);
            }
            System.out.println("asked " + g.asked() + " / " + m.asked + ", fraction " + g.upper() + " by " + g.lower()
                + " / " + m.upper + " by " + m.lower + ", finding " + g.finding() + " / " + m.finding + ", digest "
                + g.digest() + " / " + m.digest());
        }
        return fine;
    }

    /** A TEXT that mostly tells a TOWN. */
    private static void write(Random random, GuineaHours g, Model m, boolean large, List<String> log) {
        int hours = large ? 4 + random.nextInt(2) : 1 + random.nextInt(4);
        int people = large ? 6 + random.nextInt(2) : random.nextInt(6);
        int places = 1 + random.nextInt(3);
        StringBuilder s = new StringBuilder();
        s.append(" ".repeat(random.nextInt(2))).append('h').append(hours);
        for (int x = 0; x < people; x++) {
            s.append(" ".repeat(random.nextInt(2)));
            s.append(random.nextInt(3) == 0 ? 'm' : "mpsegt".charAt(random.nextInt(6))).append(random.nextInt(random.nextBoolean() ? 4 : 10));
            for (int h = 0; h < hours; h++) {
                s.append(random.nextInt(12) == 0 ? "-" : "" + random.nextInt(places));
            }
        }
        s.append(" ".repeat(random.nextInt(3)));
        int t = random.nextInt(4);
        both(g, m, "text", t, s.length());
        for (int i = 0; i < s.length(); i++) {
            both(g, m, "put", t, i, s.charAt(i));
        }
        log.add("TEXT " + t + " '" + s + "'");
        if (random.nextInt(6) == 0) {
            int i = random.nextInt(s.length());
            int v = " hmpsegt0123456789-x".charAt(random.nextInt(20));
            both(g, m, "put", t, i, v);
            log.add("put " + i + " " + (char) v);
        }
        both(g, m, "town", t);
        log.add("town " + t);
    }

    /** A ROW that may be shares, or hands. */
    private static void fillRow(Random random, GuineaHours g, Model m, String what, List<String> log) {
        boolean shares = what.equals("SHARES");
        int size = shares ? m.people.size() : m.hours + 1;
        int r = random.nextInt(6);
        int left = 9;
        both(g, m, "row", r, size);
        for (int i = 0; i < size; i++) {
            int share = i == size - 1 ? left : random.nextInt(left + 1);
            left -= share;
            int v = shares ? share : m.people.isEmpty() ? 0 : random.nextInt(m.people.size());
            both(g, m, "lay", r, i, v);
        }
        log.add("ROW " + r + " " + Arrays.toString(m.rows[r]));
    }

    /** Many SIGHTS at once, so that they come to be full. */
    private static void seeMuch(Random random, GuineaHours g, Model m, List<String> log) {
        int many = random.nextInt(4) == 0 ? 8 - m.sights.size() : 1;
        for (int n = 0; n < many && !m.people.isEmpty(); n++) {
            int[] a = {random.nextInt(m.hours + 1), random.nextInt(m.people.size()), 0};
            both(g, m, "sight", a);
            log.add("sight" + Arrays.toString(a));
        }
    }

    private static void both(GuineaHours g, Model m, String name, int... a) {
        long got = call(g, name, a);
        long want = m.call(name, a);
        if (got != want) {
            System.out.println(name + Arrays.toString(a) + " answered " + got + ", due is " + want);
            System.exit(1);
        }
    }

    private static int[] arguments(Random random, String name, Model m) {
        int n = m.people.size();
        int x = near(random, n);
        int y = near(random, n);
        int h = near(random, m.hours + 1);
        int r = near(random, 6);
        switch (name) {
            case "row": return new int[] {r, near(random, random.nextBoolean() ? 8 : 41)};
            case "lay": return new int[] {r, near(random, 8), random.nextInt(6) == 0 ? random.nextInt() : near(random, 9)};
            case "at": return new int[] {r, near(random, 8)};
            case "copy": return new int[] {r, near(random, 5), near(random, 6), near(random, 5), near(random, 5)};
            case "text": return new int[] {random.nextInt(5), near(random, random.nextBoolean() ? 20 : 81)};
            case "put": return new int[] {random.nextInt(4), near(random, 30), random.nextInt(5) == 0 ? random.nextInt() : near(random, 128)};
            case "fault": case "town": return new int[] {near(random, 4)};
            case "tear": case "mean": case "judge": return new int[] {r};
            case "person": return new int[] {x, near(random, 3)};
            case "place": case "may": case "worth": case "lost": return new int[] {x, h};
            case "mark": return new int[] {x, near(random, 6)};
            case "times": return new int[] {random.nextInt(7)};
            case "back": return new int[] {random.nextInt(8) == 0 ? 2 : random.nextInt(2)};
            case "begin": case "give": case "often": return new int[] {x};
            case "keep": case "on": return new int[] {near(random, 3)};
            case "ways": case "bars": case "least": case "two": return new int[] {x, y};
            case "way": return new int[] {x, y, r};
            case "best": case "fewest": case "where": case "ask": return new int[] {h};
            case "keeps": return new int[] {near(random, 1 << n), h};
            case "leaves": return new int[] {r, h};
            case "sight": return new int[] {h, x, random.nextInt(12) == 0 ? 2 : random.nextInt(3) / 2};
            case "forget": return new int[] {near(random, m.sights.size() + 1)};
            case "odds": case "send": return new int[] {x, h, y};
            case "lots": return new int[] {x, random.nextInt(9) == 0 ? near(random, 2) : random.nextInt() & 0x7fffffff};
            case "count": return new int[] {near(random, 8)};
            case "findings": return new int[] {near(random, 6)};
            default: return new int[0];
        }
    }

    /** Mostly 0 .. n - 1; at times just outside, or far away. */
    private static int near(Random random, int n) {
        int dice = random.nextInt(60);
        if (dice == 0) {
            return random.nextInt();
        }
        if (dice <= 2) {
            return -1;
        }
        if (dice <= 4 || n <= 0) {
            return n;
        }
        return random.nextInt(n);
    }

    private static long call(GuineaHours g, String name, int[] a) {
        switch (name) {
            case "row": return g.row(a[0], a[1]);
            case "lay": return g.lay(a[0], a[1], a[2]);
            case "at": return g.at(a[0], a[1]);
            case "tear": return g.tear(a[0]);
            case "copy": return g.copy(a[0], a[1], a[2], a[3], a[4]);
            case "mean": return g.mean(a[0]);
            case "text": return g.text(a[0], a[1]);
            case "put": return g.put(a[0], a[1], a[2]);
            case "fault": return g.fault(a[0]);
            case "town": return g.town(a[0]);
            case "person": return g.person(a[0], a[1]);
            case "place": return g.place(a[0], a[1]);
            case "mark": return g.mark(a[0], a[1]);
            case "times": return g.times(a[0]);
            case "back": return g.back(a[0]);
            case "may": return g.may(a[0], a[1]);
            case "begin": return g.begin(a[0]);
            case "give": return g.give(a[0]);
            case "undo": return g.undo();
            case "now": return g.now();
            case "often": return g.often(a[0]);
            case "can": return g.can();
            case "ends": return g.ends();
            case "keep": return g.keep(a[0]);
            case "on": return g.on(a[0]);
            case "judge": return g.judge(a[0]);
            case "ways": return g.ways(a[0], a[1]);
            case "way": return g.way(a[0], a[1], a[2]);
            case "bars": return g.bars(a[0], a[1]);
            case "least": return g.least(a[0], a[1]);
            case "worth": return g.worth(a[0], a[1]);
            case "best": return g.best(a[0]);
            case "keeps": return g.keeps(a[0], a[1]);
            case "fewest": return g.fewest(a[0]);
            case "leaves": return g.leaves(a[0], a[1]);
            case "sight": return g.sight(a[0], a[1], a[2]);
            case "forget": return g.forget(a[0]);
            case "fits": return g.fits();
            case "where": return g.where(a[0]);
            case "ask": return g.ask(a[0]);
            case "odds": return g.odds(a[0], a[1], a[2]);
            case "lost": return g.lost(a[0], a[1]);
            case "send": return g.send(a[0], a[1], a[2]);
            case "two": return g.two(a[0], a[1]);
            case "lots": return g.lots(a[0], a[1]);
            case "count": return g.count(a[0]);
            case "findings": return g.findings(a[0]);
            default: return g.digest();
        }
    }

    private static final class Fraction {
        final BigInteger upper, lower;

        Fraction(BigInteger u, BigInteger l) {
            BigInteger d = u.gcd(l);
            upper = u.divide(d);
            lower = l.divide(d);
        }

        static Fraction of(long u, long l) {
            return new Fraction(BigInteger.valueOf(u), BigInteger.valueOf(l));
        }

        Fraction plus(Fraction o) {
            return new Fraction(upper.multiply(o.lower).add(o.upper.multiply(lower)), lower.multiply(o.lower));
        }

        Fraction by(int n) {
            return new Fraction(upper, lower.multiply(BigInteger.valueOf(n)));
        }

        boolean above(Fraction o) {
            return upper.multiply(o.lower).compareTo(o.upper.multiply(lower)) > 0;
        }
    }

    private static final class Kept {
        List<Integer> hands;
        int times, back;
    }

    /** PEOPLE are the letters and figures of their items. */
    private static final class Model {
        final int[][] rows = new int[6][];
        final byte[][] texts = new byte[4][];
        List<String> people = new ArrayList<>();
        int hours = 0, times = 3, back = 0, asked = 0, finding = 0;
        long upper = 0, lower = 1;
        final int[] findings = new int[6];
        List<Integer> day = null;
        final Kept[] kept = new Kept[3];
        final List<int[]> sights = new ArrayList<>();

        int find(int f) {
            finding = f;
            findings[f]++;
            return FINDING;
        }

        int tell(int value, int answer) {
            asked = value;
            return answer;
        }

        int tellFraction(Fraction f, int answer) {
            upper = f.upper.longValueExact();
            lower = f.lower.longValueExact();
            return answer;
        }

        boolean one(int x) {
            return x >= 0 && x < people.size();
        }

        boolean hour(int h) {
            return h >= 0 && h < hours;
        }

        boolean moment(int h) {
            return h >= 0 && h <= hours;
        }

        char kind(int x) {
            return people.get(x).charAt(0);
        }

        int fee(int x) {
            return people.get(x).charAt(1) - '0';
        }

        char spot(int x, int h) {
            return people.get(x).charAt(2 + h);
        }

        int most(int x, int v) {
            return v + (kind(x) == 'e' ? 1 : kind(x) == 't' ? 2 : 0);
        }

        int crowd(int x, int h) {
            int many = 0;
            for (int y = 0; y < people.size(); y++) {
                if (spot(y, h) == spot(x, h)) {
                    many++;
                }
            }
            return spot(x, h) == '-' ? 0 : many;
        }

        boolean may(int x, int y, int h) {
            boolean together = x != y && spot(x, h) != '-' && spot(x, h) == spot(y, h);
            boolean proud = kind(y) == 'p' && x > y;
            boolean shy = kind(y) == 's' && crowd(y, h) != 2;
            boolean goose = kind(x) == 'g' && y != (x + 1) % people.size();
            boolean great = kind(y) == 't' && kind(x) == 'g';
            return together && !proud && !shy && !goose && !great;
        }

        /** The last giving of these hands: what is against it by THE LAW. */
        int against(List<Integer> hands, int v) {
            int h = hands.size() - 2;
            int x = hands.get(h);
            int y = hands.get(h + 1);
            int often = 0;
            for (int z : hands) {
                often += z == y ? 1 : 0;
            }
            if (!may(x, y, h)) {
                return 1;
            }
            if (back == 1 && h > 0 && hands.get(h - 1) == y) {
                return 2;
            }
            return often > most(y, v) ? 3 : 0;
        }

        /** All ROWS of HANDS by THE LAW that begin so, in order. */
        List<int[]> rowsFrom(List<Integer> hands, int v) {
            List<int[]> all = new ArrayList<>();
            goOn(new ArrayList<>(hands), v, all);
            return all;
        }

        void goOn(List<Integer> hands, int v, List<int[]> all) {
            if (hands.size() == hours + 1) {
                all.add(hands.stream().mapToInt(Integer::intValue).toArray());
                return;
            }
            for (int y = 0; y < people.size(); y++) {
                hands.add(y);
                if (hands.size() == 1 || against(hands, v) == 0) {
                    goOn(hands, v, all);
                }
                hands.remove(hands.size() - 1);
            }
        }

        List<int[]> between(int x, int y, int v) {
            List<int[]> all = rowsFrom(List.of(x), v);
            all.removeIf(row -> row[hours] != y);
            return all;
        }

        List<int[]> fitting() {
            List<int[]> all = rowsFrom(List.of(), times);
            all.removeIf(row -> sights.stream().anyMatch(s -> (row[s[0]] == s[1]) != (s[2] == 1)));
            return all;
        }

        int bits(List<int[]> all, int h) {
            int b = 0;
            for (int[] row : all) {
                b |= 1 << row[h];
            }
            return b;
        }

        int worth(int x, int h) {
            if (h == hours) {
                return 9;
            }
            int most = 0;
            for (int y = 0; y < people.size(); y++) {
                if (may(x, y, h)) {
                    most = Math.max(most, worth(y, h + 1) - fee(y));
                }
            }
            return most;
        }

        int whom(int x, int h) {
            if (h == hours) {
                return NONE;
            }
            for (int y = 0; y < people.size(); y++) {
                if (may(x, y, h) && Math.max(0, worth(y, h + 1) - fee(y)) == worth(x, h)) {
                    return y;
                }
            }
            return NONE;
        }

        int longest(int set, int x, int h) {
            int most = 0;
            for (int y = 0; h < hours && y < people.size(); y++) {
                if ((set >> y & 1) == 1 && may(x, y, h)) {
                    most = Math.max(most, 1 + longest(set, y, h + 1));
                }
            }
            return most;
        }

        int longest(int set, int h) {
            int most = -1;
            for (int x = 0; x < people.size(); x++) {
                if ((set >> x & 1) == 1) {
                    most = Math.max(most, longest(set, x, h));
                }
            }
            return most;
        }

        /** Of y having it at MIDNIGHT; of its being LOST for -1. */
        Fraction odds(int x, int h, int y) {
            if (h == hours) {
                return Fraction.of(x == y ? 1 : 0, 1);
            }
            int many = 0;
            Fraction sum = Fraction.of(0, 1);
            for (int z = 0; z < people.size(); z++) {
                if (may(x, z, h)) {
                    many++;
                    sum = sum.plus(odds(z, h + 1, y));
                }
            }
            return many == 0 ? Fraction.of(y < 0 ? 1 : 0, 1) : sum.by(many);
        }

        int two(int x, int y, int h) {
            int most = 0;
            boolean together = h < hours && spot(x, h) == spot(y, h);
            for (int a = 0; h < hours && !together && a < people.size(); a++) {
                for (int b = 0; b < people.size(); b++) {
                    if (may(x, a, h) && may(y, b, h)) {
                        most = Math.max(most, 1 + two(a, b, h + 1));
                    }
                }
            }
            return most;
        }

        /** A place is a FAULT if no TOWN begins with all up to it. */
        int fault(byte[] text) {
            String s = new String(text, java.nio.charset.StandardCharsets.ISO_8859_1);
            for (int end = 1; end <= s.length(); end++) {
                if (!fitsTown(s.substring(0, end), true)) {
                    return end - 1;
                }
            }
            return fitsTown(s, false) ? NONE : s.length();
        }

        boolean fitsTown(String s, boolean asBeginning) {
            for (int h = 1; h <= 5; h++) {
                Matcher matcher = Pattern.compile(" *h" + h + "( *[mpsegt][0-9][0-5-]{" + h + "}){0,7} *").matcher(s);
                if (matcher.matches() || asBeginning && matcher.hitEnd()) {
                    return true;
                }
            }
            return false;
        }

        int can() {
            int b = 0;
            for (int y = 0; y < people.size() && day.size() <= hours; y++) {
                List<Integer> more = new ArrayList<>(day);
                more.add(y);
                b |= against(more, times) == 0 ? 1 << y : 0;
            }
            return b;
        }

        long call(String name, int[] a) {
            switch (name) {
                case "row": case "lay": case "at": case "tear": case "copy": case "mean": return ofRows(name, a);
                case "text": case "put": case "fault": case "town": return ofTexts(name, a);
                case "person": case "place": case "mark": case "times": case "back": case "may": return ofPeople(name, a);
                case "begin": case "give": case "undo": case "now": case "often": case "can": case "ends": case "keep":
                case "on": case "lots": return ofDays(name, a);
                case "judge": case "ways": case "way": case "bars": case "least": return ofHands(name, a);
                case "worth": case "best": case "keeps": case "fewest": case "leaves": return ofSets(name, a);
                case "sight": case "forget": case "fits": case "where": case "ask": return ofSights(name, a);
                case "odds": case "lost": case "send": case "two": return ofChance(name, a);
                case "count": return count(a[0]);
                case "findings": return a[0] < 1 || a[0] > 5 ? BAD : findings[a[0]];
                default: return digest();
            }
        }

        int ofRows(String name, int[] a) {
            int r = a[0];
            if (r < 0 || r > 5) {
                return BAD;
            }
            switch (name) {
                case "row":
                    if (a[1] > 40) {
                        return BAD;
                    }
                    if (a[1] < 0) {
                        return find(5);
                    }
                    rows[r] = new int[a[1]];
                    return a[1];
                case "copy":
                    if (a[2] < 0 || a[2] > 5) {
                        return BAD;
                    }
                    if (a[4] < 0) {
                        return find(5);
                    }
                    if (rows[r] == null || rows[a[2]] == null) {
                        return find(1);
                    }
                    if (a[1] < 0 || a[3] < 0 || (long) a[1] + a[4] > rows[r].length || (long) a[3] + a[4] > rows[a[2]].length) {
                        return find(2);
                    }
                    int[] taken = rows[r].clone();
                    for (int k = 0; k < a[4]; k++) {
                        rows[a[2]][a[3] + k] = taken[a[1] + k];
                    }
                    return 1;
                default:
            }
            if (rows[r] == null) {
                return find(1);
            }
            if (name.equals("tear")) {
                rows[r] = null;
                return 1;
            }
            if (name.equals("mean")) {
                if (rows[r].length == 0) {
                    return find(4);
                }
                BigInteger sum = BigInteger.ZERO;
                for (int v : rows[r]) {
                    sum = sum.add(BigInteger.valueOf(v));
                }
                return tell(sum.divide(BigInteger.valueOf(rows[r].length)).intValueExact(), 1);
            }
            if (a[1] < 0 || a[1] >= rows[r].length) {
                return find(2);
            }
            asked = rows[r][a[1]];
            if (name.equals("lay")) {
                rows[r][a[1]] = a[2];
            }
            return 1;
        }

        int ofTexts(String name, int[] a) {
            int t = a[0];
            if (t < 0 || t > 3 || name.equals("text") && a[1] > 80) {
                return BAD;
            }
            if (name.equals("text")) {
                if (a[1] < 0) {
                    return find(5);
                }
                texts[t] = " ".repeat(a[1]).getBytes();
                return a[1];
            }
            if (texts[t] == null) {
                return find(1);
            }
            if (name.equals("put")) {
                if (a[1] < 0 || a[1] >= texts[t].length) {
                    return find(2);
                }
                int old = texts[t][a[1]];
                texts[t][a[1]] = (byte) a[2];
                return 1000 + old;
            }
            int fault = fault(texts[t]);
            if (name.equals("fault")) {
                return fault;
            }
            if (fault != NONE) {
                return STATE;
            }
            String s = new String(texts[t]).replace(" ", "");
            hours = s.charAt(1) - '0';
            people = new ArrayList<>();
            for (int i = 2; i < s.length(); i += 2 + hours) {
                people.add(s.substring(i, i + 2 + hours));
            }
            day = null;
            Arrays.fill(kept, null);
            sights.clear();
            return people.size();
        }

        int ofPeople(String name, int[] a) {
            if (name.equals("times")) {
                if (a[0] < 1 || a[0] > 5) {
                    return BAD;
                }
                int old = times;
                times = a[0];
                return old;
            }
            if (name.equals("back")) {
                if (a[0] != 0 && a[0] != 1) {
                    return BAD;
                }
                int old = back;
                back = a[0];
                return old;
            }
            int x = a[0];
            if (!one(x)) {
                return BAD;
            }
            if (name.equals("person")) {
                return a[1] < 0 || a[1] > 2 ? BAD
                    : tell(a[1] == 0 ? "mpsegt".indexOf(kind(x)) : a[1] == 1 ? fee(x) : most(x, times), 1);
            }
            if (name.equals("mark")) {
                return mark(x, a[1]);
            }
            if (!hour(a[1])) {
                return BAD;
            }
            if (name.equals("place")) {
                return tell(spot(x, a[1]) == '-' ? NONE : spot(x, a[1]) - '0', 1);
            }
            int b = 0;
            for (int y = 0; y < people.size(); y++) {
                b |= may(x, y, a[1]) ? 1 << y : 0;
            }
            return b;
        }

        int mark(int x, int k) {
            if (k < 1 || k > 5) {
                return BAD;
            }
            if ("mpsegt".charAt(k) != kind(x) && !(k == 3 && kind(x) == 't')) {
                return find(3);
            }
            int many = 0;
            switch (k) {
                case 1:
                    return x;
                case 2:
                    for (int h = 0; h < hours; h++) {
                        many += crowd(x, h) == 2 ? 1 : 0;
                    }
                    return many;
                case 3:
                    return most(x, times);
                case 4:
                    return people.size() == 1 ? NONE : (x + 1) % people.size();
                default:
                    for (String p : people) {
                        many += p.startsWith("g") ? 1 : 0;
                    }
                    return many;
            }
        }

        int ofDays(String name, int[] a) {
            switch (name) {
                case "begin":
                    if (!one(a[0])) {
                        return BAD;
                    }
                    day = new ArrayList<>(List.of(a[0]));
                    int many = 0;
                    for (int y = 0; y < people.size(); y++) {
                        many += may(a[0], y, 0) ? 1 : 0;
                    }
                    return many;
                case "lots":
                    return lots(a[0], a[1]);
                case "give": case "often":
                    if (!one(a[0])) {
                        return BAD;
                    }
                    break;
                case "keep": case "on":
                    if (a[0] < 0 || a[0] > 2) {
                        return BAD;
                    }
                    break;
                default:
            }
            if (name.equals("on")) {
                if (kept[a[0]] == null) {
                    return find(1);
                }
                day = new ArrayList<>(kept[a[0]].hands);
                times = kept[a[0]].times;
                back = kept[a[0]].back;
                return day.size() - 1;
            }
            return day == null ? STATE : ofTheDay(name, a);
        }

        int ofTheDay(String name, int[] a) {
            switch (name) {
                case "give":
                    if ((can() >> a[0] & 1) == 0) {
                        return STATE;
                    }
                    day.add(a[0]);
                    return day.size() - 1;
                case "undo":
                    if (day.size() < 2) {
                        return STATE;
                    }
                    day.remove(day.size() - 1);
                    return day.size() - 1;
                case "now":
                    return tell(day.size() - 1, day.get(day.size() - 1));
                case "often":
                    return (int) day.stream().filter(z -> z == a[0]).count();
                case "can":
                    return can();
                case "ends":
                    List<int[]> all = rowsFrom(day, times);
                    return tell(bits(all, hours), all.size());
                default:
                    Kept k = new Kept();
                    k.hands = new ArrayList<>(day);
                    k.times = times;
                    k.back = back;
                    kept[a[0]] = k;
                    return day.size() - 1;
            }
        }

        int lots(int x, int seed) {
            if (!one(x) || seed < 1 || seed > 2147483646) {
                return BAD;
            }
            day = new ArrayList<>(List.of(x));
            BigInteger number = BigInteger.valueOf(seed);
            while (day.size() <= hours && can() != 0) {
                number = number.multiply(BigInteger.valueOf(48271)).mod(BigInteger.valueOf(2147483647));
                List<Integer> those = new ArrayList<>();
                for (int y = 0; y < people.size(); y++) {
                    if ((can() >> y & 1) == 1) {
                        those.add(y);
                    }
                }
                day.add(those.get(number.mod(BigInteger.valueOf(those.size())).intValue()));
            }
            return day.size() - 1;
        }

        int ofHands(String name, int[] a) {
            if (name.equals("judge")) {
                return judge(a[0]);
            }
            if (!one(a[0]) || !one(a[1]) || name.equals("way") && (a[2] < 0 || a[2] > 5)) {
                return BAD;
            }
            if (name.equals("least")) {
                for (int v = 1; v <= 5; v++) {
                    if (!between(a[0], a[1], v).isEmpty()) {
                        return v;
                    }
                }
                return NONE;
            }
            List<int[]> all = between(a[0], a[1], times);
            if (name.equals("ways")) {
                return all.size();
            }
            if (name.equals("way")) {
                if (all.isEmpty()) {
                    return NONE;
                }
                rows[a[2]] = all.get(0).clone();
                return 1;
            }
            int b = 0;
            for (int z = 0; z < people.size(); z++) {
                int other = z;
                boolean always = all.stream().allMatch(row -> Arrays.stream(row).anyMatch(w -> w == other));
                b |= z != a[0] && z != a[1] && always ? 1 << z : 0;
            }
            return b;
        }

        int judge(int r) {
            if (r < 0 || r > 5) {
                return BAD;
            }
            if (hours == 0) {
                return STATE;
            }
            if (rows[r] == null) {
                return find(1);
            }
            if (rows[r].length != hours + 1) {
                return find(5);
            }
            for (int v : rows[r]) {
                if (!one(v)) {
                    return find(3);
                }
            }
            List<Integer> hands = new ArrayList<>();
            for (int v : rows[r]) {
                hands.add(v);
                if (hands.size() > 1 && against(hands, times) != 0) {
                    return tell(against(hands, times), hands.size() - 2);
                }
            }
            return tell(0, hours);
        }

        int ofSets(String name, int[] a) {
            int n = people.size();
            switch (name) {
                case "worth":
                    return !one(a[0]) || !moment(a[1]) ? BAD : tell(whom(a[0], a[1]), worth(a[0], a[1]));
                case "best":
                    if (!moment(a[0])) {
                        return BAD;
                    }
                    int first = 0;
                    for (int x = 0; x < n; x++) {
                        first = worth(x, a[0]) > worth(first, a[0]) ? x : first;
                    }
                    return n == 0 ? STATE : tell(worth(first, a[0]), first);
                case "keeps":
                    if (a[0] < 0 || a[0] >= 1 << n || !moment(a[1])) {
                        return BAD;
                    }
                    int starts = 0;
                    for (int x = 0; x < n; x++) {
                        boolean in = (a[0] >> x & 1) == 1;
                        starts |= in && longest(a[0], x, a[1]) == longest(a[0], a[1]) ? 1 << x : 0;
                    }
                    return a[0] == 0 ? NONE : tell(starts, longest(a[0], a[1]));
                case "fewest":
                    if (!moment(a[0])) {
                        return BAD;
                    }
                    for (int many = 1; many <= n; many++) {
                        for (int set = 1; set < 1 << n; set++) {
                            if (Integer.bitCount(set) == many && longest(set, a[0]) == hours - a[0]) {
                                return tell(set, many);
                            }
                        }
                    }
                    return NONE;
                default:
                    return leaves(a[0], a[1]);
            }
        }

        int leaves(int r, int h) {
            int n = people.size();
            if (r < 0 || r > 5 || !moment(h)) {
                return BAD;
            }
            if (n == 0) {
                return STATE;
            }
            if (rows[r] == null) {
                return find(1);
            }
            if (rows[r].length != n) {
                return find(5);
            }
            if (Arrays.stream(rows[r]).anyMatch(v -> v < 0 || v > 9) || Arrays.stream(rows[r]).sum() != 9) {
                return find(3);
            }
            for (int set = 1; set < 1 << n; set++) {
                int sum = 0;
                for (int x = 0; x < n; x++) {
                    sum += (set >> x & 1) * rows[r][x];
                }
                if (sum < 9 && longest(set, h) == hours - h) {
                    return set;
                }
            }
            return 0;
        }

        int ofSights(String name, int[] a) {
            switch (name) {
                case "sight":
                    if (!moment(a[0]) || !one(a[1]) || a[2] < 0 || a[2] > 1) {
                        return BAD;
                    }
                    if (sights.size() == 8) {
                        return FULL;
                    }
                    sights.add(a.clone());
                    return sights.size() - 1;
                case "forget":
                    if (a[0] < 0 || a[0] > sights.size()) {
                        return BAD;
                    }
                    int many = sights.size() - a[0];
                    sights.subList(a[0], sights.size()).clear();
                    return many;
                default:
            }
            if (!name.equals("fits") && !moment(a[0])) {
                return BAD;
            }
            if (hours == 0) {
                return STATE;
            }
            List<int[]> all = fitting();
            if (name.equals("fits")) {
                return tell(bits(all, 0), all.size());
            }
            if (all.isEmpty()) {
                return find(4);
            }
            if (name.equals("where")) {
                int b = bits(all, a[0]);
                return tell(Integer.bitCount(b) == 1 ? Integer.numberOfTrailingZeros(b) : NONE, b);
            }
            int first = -1;
            int least = Integer.MAX_VALUE;
            for (int x = 0; x < people.size(); x++) {
                int yes = 0;
                for (int[] row : all) {
                    yes += row[a[0]] == x ? 1 : 0;
                }
                if (Math.max(yes, all.size() - yes) < least) {
                    least = Math.max(yes, all.size() - yes);
                    first = x;
                }
            }
            return tell(least, first);
        }

        int ofChance(String name, int[] a) {
            if (name.equals("two")) {
                return !one(a[0]) || !one(a[1]) || a[0] == a[1] ? BAD : two(a[0], a[1], 0);
            }
            if (!one(a[0]) || !moment(a[1]) || name.equals("send") && !hour(a[1])) {
                return BAD;
            }
            if (name.equals("lost")) {
                return tellFraction(odds(a[0], a[1], -1), 1);
            }
            if (!one(a[2])) {
                return BAD;
            }
            if (name.equals("odds")) {
                return tellFraction(odds(a[0], a[1], a[2]), 1);
            }
            int first = NONE;
            for (int z = 0; z < people.size(); z++) {
                if (may(a[0], z, a[1])
                    && (first == NONE || odds(z, a[1] + 1, a[2]).above(odds(first, a[1] + 1, a[2])))) {
                    first = z;
                }
            }
            return first == NONE ? NONE : tellFraction(odds(first, a[1] + 1, a[2]), first);
        }

        int count(int what) {
            switch (what) {
                case 0: return people.size();
                case 1: return hours;
                case 2: return day == null ? NONE : day.size() - 1;
                case 3: return (int) people.stream().filter(p -> p.charAt(0) == 'e' || p.charAt(0) == 't').count();
                case 4: return sights.size();
                case 5: return (int) Arrays.stream(kept).filter(k -> k != null).count();
                case 6: return (int) Arrays.stream(rows).filter(r -> r != null).count();
                case 7: return (int) Arrays.stream(texts).filter(t -> t != null).count();
                default: return BAD;
            }
        }

        long digest() {
            List<Integer> all = new ArrayList<>();
            for (int what = 0; what < 8; what++) {
                all.add(count(what));
            }
            all.add(times);
            all.add(back);
            for (int x = 0; x < people.size(); x++) {
                all.addAll(List.of("mpsegt".indexOf(kind(x)), fee(x), most(x, times)));
                for (int h = 0; h < hours; h++) {
                    all.add(spot(x, h) == '-' ? NONE : spot(x, h) - '0');
                }
            }
            all.addAll(day == null ? List.of() : day);
            for (int[] s : sights) {
                all.addAll(List.of(s[0], s[1], s[2]));
            }
            for (Kept k : kept) {
                all.add(k == null ? -1 : k.hands.size() - 1);
            }
            for (int[] row : rows) {
                all.add(row == null ? -1 : row.length);
                for (int i = 0; row != null && i < row.length; i++) {
                    all.add(row[i]);
                }
            }
            for (byte[] text : texts) {
                all.add(text == null ? -1 : text.length);
                for (int i = 0; text != null && i < text.length; i++) {
                    all.add((int) text[i]);
                }
            }
            long h = 17;
            for (int v : all) {
                h = 31 * h + v;
            }
            return h;
        }
    }
}
