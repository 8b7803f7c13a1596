/** What the tests share: answers that are due, towns, rows, and the sentence of the document that is looked at. */
abstract class Check {
    static final int BAD = -1, FULL = -2, FINDING = -3, STATE = -4, NONE = -9;
    static final int NOTHING = 1, BEYOND = 2, UNLIKE = 3, NOUGHT = 4, SIZE = 5;
    static final int MIN = Integer.MIN_VALUE, MAX = Integer.MAX_VALUE;
    /** A HAND and a PROUD one who stay together, an ELDER who is nowhere in HOUR 1. */
    static final String SMALL = "h2 m100 p100 e20-";
    /** One of each KIND and one HAND more. */
    static final String KINDS = "h4 m10012 p20011 s00122 e3011- g10112 t2102- m40110";
    /** Four HANDS who are always together. */
    static final String CROWD = "h3 m0000 m1000 m2000 m3000";
    /** As many PEOPLE, HOURS as there can be, all together. */
    static final String SEVEN = "h5 m000000 m000000 m000000 m000000 m000000 m000000 m000000";

    private static int wrong = 0;
    private static int asked = 0;
    private static String about = "";

    /** What is looked at from here on is about these words of a promise (0: of the Terms). */
    static void of(int promise, String words) {
        about = "promise " + promise + ", \"" + words + "\"";
        if (!Document.tells(promise, words)) {
            fault("the document has no such words there");
        }
    }

    /** What is looked at from here on is about a promise as a whole. */
    static void of(int promise) {
        about = "promise " + promise;
    }

    static void fault(String what) {
        wrong++;
        System.out.println(about + ": " + what);
    }

    static void due(String call, long got, long want) {
        asked++;
        if (got != want) {
            fault(call + " answered " + got + ", due is " + want);
        }
    }

    /** A FINDING is due, and this one. */
    static void finds(GuineaHours g, String call, long got, int want) {
        due(call, got, FINDING);
        due(call + ", finding()", g.finding(), want);
    }

    /** A call that tells by asked(). */
    static void tells(GuineaHours g, String call, long got, long want, long wantAsked) {
        due(call, got, want);
        due(call + ", asked()", g.asked(), wantAsked);
    }

    static void fraction(GuineaHours g, String call, long got, long want, long upper, long lower) {
        due(call, got, want);
        due(call + ", upper()", g.upper(), upper);
        due(call + ", lower()", g.lower(), lower);
    }

    static void write(GuineaHours g, int t, String s) {
        g.text(t, s.length());
        for (int i = 0; i < s.length(); i++) {
            g.put(t, i, s.charAt(i));
        }
    }

    /** A new object with a TOWN by TEXT 0. */
    static GuineaHours in(String s) {
        GuineaHours g = new GuineaHours();
        write(g, 0, s);
        g.town(0);
        return g;
    }

    static void fill(GuineaHours g, int r, int... values) {
        g.row(r, values.length);
        for (int i = 0; i < values.length; i++) {
            g.lay(r, i, values[i]);
        }
    }

    /** A ROW has these places and no more. */
    static void rowIs(GuineaHours g, int r, int... values) {
        for (int i = 0; i < values.length; i++) {
            tells(g, "at(" + r + ", " + i + ")", g.at(r, i), 1, values[i]);
        }
        due("at(" + r + ", " + values.length + ") behind the end", g.at(r, values.length), FINDING);
    }

    /** The first FAULT of a TEXT, and that a TOWN is made by it only without one. */
    static void faultIs(String s, int want) {
        GuineaHours g = new GuineaHours();
        write(g, 2, s);
        due("fault of '" + s + "'", g.fault(2), want);
        due("town of '" + s + "' answers STATE", g.town(2) == STATE ? 1 : 0, want == NONE ? 0 : 1);
    }

    /** The digest of these, told one behind the other. */
    static long digestOf(int... values) {
        long h = 17;
        for (int v : values) {
            h = 31 * h + v;
        }
        return h;
    }

    /** Ends the test: with exit code 1 if an answer was not as due. */
    static void end() {
        System.out.println(asked + " answers looked at, " + wrong + " not as due");
        if (wrong != 0) {
            System.exit(1);
        }
    }
}
