import java.util.Arrays;

/** Promises 1 to 17: ROWS, TEXTS, TOWNS; a test for each sentence. */
final class RowsEdges extends Check {
    private static final int[] NO_ROWS = {-1, 6, MIN, MAX};
    private static final int[] NO_TEXTS = {-1, 4, MIN, MAX};

    private RowsEdges() {
    }

    static void all() {
        newObject();
        row();
        layAndAt();
        tear();
        copy();
        copyRefused();
        mean();
        text();
        put();
        fault();
        town();
        person();
        place();
        mark();
        markRefused();
        laws();
        may();
    }

    private static void newObject() {
        of(1, "No ROWS, TEXTS, PEOPLE;");
        GuineaHours g = new GuineaHours();
        for (int r = 0; r < 6; r++) {
            finds(g, "at(" + r + ", 0)", g.at(r, 0), NOTHING);
        }
        for (int t = 0; t < 4; t++) {
            finds(g, "put(" + t + ", 0, 1)", g.put(t, 0, 1), NOTHING);
        }
        due("count(0)", g.count(0), 0);
        due("count(6)", g.count(6), 0);
        due("count(7)", g.count(7), 0);
        due("person(0, 0)", g.person(0, 0), BAD);
        of(1, "TIMES 3, BACK 0.");
        due("times(1)", g.times(1), 3);
        due("back(1)", g.back(1), 0);
    }

    private static void row() {
        of(2, "A ROW is there with n ints 0: n.");
        GuineaHours g = new GuineaHours();
        due("row(0, 0)", g.row(0, 0), 0);
        finds(g, "at(0, 0)", g.at(0, 0), BEYOND);
        due("row(5, 40)", g.row(5, 40), 40);
        due("count(6)", g.count(6), 2);
        tells(g, "at(5, 39)", g.at(5, 39), 1, 0);
        g.lay(5, 0, 7);
        g.lay(5, 39, 8);
        due("anew", g.row(5, 40), 40);
        tells(g, "at(5, 0) anew", g.at(5, 0), 1, 0);
        tells(g, "at(5, 39) anew", g.at(5, 39), 1, 0);
        g.lay(5, 2, 8);
        g.row(5, 2);
        g.row(5, 3);
        tells(g, "at(5, 2), smaller, greater", g.at(5, 2), 1, 0);
        of(2, "BAD: also n above 40;");
        for (int r : NO_ROWS) {
            due("row(" + r + ", 1)", g.row(r, 1), BAD);
        }
        due("row(5, 41)", g.row(5, 41), BAD);
        due("row(5, MAX)", g.row(5, MAX), BAD);
        due("row(6, -1), ahead of SIZE", g.row(6, -1), BAD);
        due("findings(5)", g.findings(SIZE), 0);
        rowIs(g, 5, 0, 0, 0);
        of(2, "SIZE: below 0.");
        finds(g, "row(5, -1)", g.row(5, -1), SIZE);
        finds(g, "row(5, MIN)", g.row(5, MIN), SIZE);
        rowIs(g, 5, 0, 0, 0);
        finds(g, "row(1, -1)", g.row(1, -1), SIZE);
        finds(g, "still missing", g.tear(1), NOTHING);
    }

    private static void layAndAt() {
        GuineaHours g = new GuineaHours();
        g.row(0, 0);
        g.row(1, 3);
        of(3, "Place i of a ROW is v: what it was, told by asked(): 1.");
        tells(g, "lay(1, 0, MAX)", g.lay(1, 0, MAX), 1, 0);
        tells(g, "lay(1, 0, MIN)", g.lay(1, 0, MIN), 1, MAX);
        tells(g, "lay(1, 0, -1)", g.lay(1, 0, -1), 1, MIN);
        tells(g, "lay(1, 2, -9)", g.lay(1, 2, -9), 1, 0);
        rowIs(g, 1, -1, 0, -9);
        of(4, "Place i of a ROW, told by asked(): 1.");
        tells(g, "at(1, 2)", g.at(1, 2), 1, -9);
        tells(g, "at(1, 0)", g.at(1, 0), 1, -1);
        g.row(5, 40);
        g.lay(5, 39, 5);
        tells(g, "at(5, 39)", g.at(5, 39), 1, 5);
        of(3, "BAD;");
        for (int r : NO_ROWS) {
            due("lay(" + r + ", 0, 1)", g.lay(r, 0, 1), BAD);
        }
        of(4, "BAD;");
        for (int r : NO_ROWS) {
            due("at(" + r + ", 0)", g.at(r, 0), BAD);
        }
        due("BAD is no FINDING", g.finding(), BEYOND);
        of(3, "NOTHING;");
        finds(g, "lay(2, 0, 1)", g.lay(2, 0, 1), NOTHING);
        finds(g, "lay(2, -1, 1), ahead of BEYOND", g.lay(2, -1, 1), NOTHING);
        of(4, "NOTHING;");
        finds(g, "at(2, 0)", g.at(2, 0), NOTHING);
        finds(g, "at(2, 40), ahead of BEYOND", g.at(2, 40), NOTHING);
        of(3, "BEYOND.");
        of(4, "BEYOND.");
        for (int i : new int[] {-1, 3, 40, MIN, MAX}) {
            finds(g, "lay(1, " + i + ", 1)", g.lay(1, i, 1), BEYOND);
            finds(g, "at(1, " + i + ")", g.at(1, i), BEYOND);
        }
        finds(g, "lay(0, 0, 1), an empty ROW", g.lay(0, 0, 1), BEYOND);
        finds(g, "at(0, 0), an empty ROW", g.at(0, 0), BEYOND);
        finds(g, "at(5, 40), a full one", g.at(5, 40), BEYOND);
        finds(g, "lay(5, 40, 1), a full one", g.lay(5, 40, 1), BEYOND);
        due("asked() stays", g.asked(), 5);
    }

    private static void tear() {
        of(5, "A ROW is missing: 1.");
        GuineaHours g = new GuineaHours();
        g.row(0, 0);
        g.row(5, 40);
        due("tear(0), an empty one", g.tear(0), 1);
        due("tear(5), a full one", g.tear(5), 1);
        due("count(6)", g.count(6), 0);
        finds(g, "at(5, 0)", g.at(5, 0), NOTHING);
        of(5, "BAD;");
        for (int r : NO_ROWS) {
            due("tear(" + r + ")", g.tear(r), BAD);
        }
        of(5, "NOTHING.");
        finds(g, "tear(5) again", g.tear(5), NOTHING);
        finds(g, "tear(1), never there", g.tear(1), NOTHING);
        due("findings(1)", g.findings(NOTHING), 3);
    }

    private static void copy() {
        of(6, "n places of a ROW, from one on, come to those of another one");
        GuineaHours g = new GuineaHours();
        fill(g, 0, 1, 2, 3, 4, 5);
        fill(g, 5, 9, 9, 9);
        due("copy(0, 3, 5, 1, 2)", g.copy(0, 3, 5, 1, 2), 1);
        rowIs(g, 5, 9, 4, 5);
        rowIs(g, 0, 1, 2, 3, 4, 5);
        due("all of a ROW", g.copy(5, 0, 0, 2, 3), 1);
        rowIs(g, 0, 1, 2, 9, 4, 5);
        g.row(3, 40);
        g.row(4, 40);
        g.lay(3, 0, 6);
        g.lay(3, 39, 7);
        due("all forty", g.copy(3, 0, 4, 0, 40), 1);
        tells(g, "at(4, 0)", g.at(4, 0), 1, 6);
        tells(g, "at(4, 39)", g.at(4, 39), 1, 7);
        of(6, "(perhaps itself) from one on, as if taken ahead: 1.");
        fill(g, 0, 1, 2, 3, 4, 5);
        due("to places behind", g.copy(0, 0, 0, 1, 4), 1);
        rowIs(g, 0, 1, 1, 2, 3, 4);
        due("to places ahead", g.copy(0, 1, 0, 0, 4), 1);
        rowIs(g, 0, 1, 2, 3, 4, 4);
        due("to the same places", g.copy(0, 0, 0, 0, 5), 1);
        rowIs(g, 0, 1, 2, 3, 4, 4);
    }

    private static void copyRefused() {
        GuineaHours g = new GuineaHours();
        fill(g, 0, 1, 2, 3, 4, 5);
        fill(g, 1, 9, 9, 9);
        g.row(4, 0);
        of(6, "BAD;");
        for (int r : NO_ROWS) {
            due("copy(" + r + ", 0, 1, 0, 1)", g.copy(r, 0, 1, 0, 1), BAD);
            due("copy(1, 0, " + r + ", 0, 1)", g.copy(1, 0, r, 0, 1), BAD);
        }
        of(6, "SIZE: n below 0;");
        finds(g, "n -1", g.copy(0, 1, 1, 1, -1), SIZE);
        finds(g, "n MIN", g.copy(0, 0, 1, 0, MIN), SIZE);
        of(6, "NOTHING: either;");
        finds(g, "the first", g.copy(2, 0, 1, 0, 1), NOTHING);
        finds(g, "the second", g.copy(1, 0, 2, 0, 1), NOTHING);
        finds(g, "both, none of it", g.copy(2, 0, 2, 0, 0), NOTHING);
        of(6, "BEYOND: not so many there");
        finds(g, "of the first", g.copy(1, 1, 0, 0, 3), BEYOND);
        finds(g, "of the second", g.copy(0, 0, 1, 1, 3), BEYOND);
        finds(g, "of an empty one", g.copy(4, 0, 0, 0, 1), BEYOND);
        finds(g, "to an empty one", g.copy(0, 0, 4, 0, 1), BEYOND);
        finds(g, "i -1", g.copy(0, -1, 1, 0, 1), BEYOND);
        finds(g, "j -1", g.copy(0, 0, 1, -1, 1), BEYOND);
        finds(g, "i + n wraps around", g.copy(0, MAX, 1, 0, 1), BEYOND);
        finds(g, "j + n wraps around", g.copy(0, 0, 1, MAX, 1), BEYOND);
        finds(g, "n MAX", g.copy(0, 1, 1, 1, MAX), BEYOND);
        finds(g, "i, j, n MAX", g.copy(0, MAX, 1, MAX, MAX), BEYOND);
        finds(g, "i MIN", g.copy(0, MIN, 1, 0, 1), BEYOND);
        finds(g, "j MIN", g.copy(0, 0, 1, MIN, MAX), BEYOND);
        of(6, "(with n 0, too, if i or j is below 0 or above the size).");
        due("i, j the size", g.copy(0, 5, 1, 3, 0), 1);
        due("empty ones", g.copy(4, 0, 4, 0, 0), 1);
        finds(g, "i above", g.copy(0, 6, 1, 0, 0), BEYOND);
        finds(g, "j above", g.copy(0, 0, 1, 4, 0), BEYOND);
        finds(g, "i below", g.copy(0, -1, 1, 0, 0), BEYOND);
        finds(g, "j below", g.copy(0, 0, 1, -1, 0), BEYOND);
        of(6, "(In this order.)");
        due("BAD ahead of SIZE", g.copy(6, 0, 0, 0, -1), BAD);
        finds(g, "SIZE ahead of NOTHING", g.copy(2, 0, 1, 0, -1), SIZE);
        finds(g, "SIZE ahead of BEYOND", g.copy(0, 9, 1, 0, -1), SIZE);
        finds(g, "NOTHING ahead of BEYOND", g.copy(0, 9, 2, 0, 1), NOTHING);
        rowIs(g, 0, 1, 2, 3, 4, 5);
        rowIs(g, 1, 9, 9, 9);
    }

    private static void mean() {
        of(7, "The mean of a ROW's ints, cut, told by asked(): 1.");
        GuineaHours g = new GuineaHours();
        fill(g, 0, 7);
        tells(g, "of 7", g.mean(0), 1, 7);
        fill(g, 0, 2, 3, 2, 4);
        tells(g, "of 11 by 4", g.mean(0), 1, 2);
        fill(g, 0, -2, -3, -2, -4);
        tells(g, "of -11 by 4", g.mean(0), 1, -2);
        fill(g, 0, MIN, MAX);
        tells(g, "of -1 by 2", g.mean(0), 1, 0);
        int[] greatest = new int[40];
        Arrays.fill(greatest, MAX);
        fill(g, 1, greatest);
        tells(g, "of forty MAX, that wrap around as ints", g.mean(1), 1, MAX);
        Arrays.fill(greatest, MIN);
        fill(g, 1, greatest);
        tells(g, "of forty MIN", g.mean(1), 1, MIN);
        of(7, "BAD;");
        for (int r : NO_ROWS) {
            due("mean(" + r + ")", g.mean(r), BAD);
        }
        of(7, "NOTHING;");
        finds(g, "mean(2)", g.mean(2), NOTHING);
        of(7, "NOUGHT.");
        g.row(3, 0);
        finds(g, "of none", g.mean(3), NOUGHT);
        due("asked() stays", g.asked(), MIN);
    }

    private static void text() {
        of(8, "A TEXT is there with n blanks: n.");
        GuineaHours g = new GuineaHours();
        due("text(3, 0)", g.text(3, 0), 0);
        due("its FAULT", g.fault(3), 0);
        due("text(0, 80)", g.text(0, 80), 80);
        due("its FAULT", g.fault(0), 80);
        due("count(7)", g.count(7), 2);
        due("put(0, 0, 65)", g.put(0, 0, 65), 1032);
        due("put(0, 79, 65)", g.put(0, 79, 65), 1032);
        g.text(0, 80);
        due("anew, put(0, 0, 1)", g.put(0, 0, 1), 1032);
        due("anew, put(0, 79, 1)", g.put(0, 79, 1), 1032);
        g.text(0, 2);
        g.text(0, 80);
        due("smaller, greater", g.put(0, 79, 1), 1032);
        of(8, "BAD: also n above 80;");
        for (int t : NO_TEXTS) {
            due("text(" + t + ", 1)", g.text(t, 1), BAD);
        }
        due("text(1, 81)", g.text(1, 81), BAD);
        due("text(1, MAX)", g.text(1, MAX), BAD);
        due("text(4, -1), ahead of SIZE", g.text(4, -1), BAD);
        due("findings(5)", g.findings(SIZE), 0);
        of(8, "SIZE: below 0.");
        finds(g, "text(1, -1)", g.text(1, -1), SIZE);
        finds(g, "text(1, MIN)", g.text(1, MIN), SIZE);
        finds(g, "still missing", g.fault(1), NOTHING);
        finds(g, "text(0, -1)", g.text(0, -1), SIZE);
        due("as it was", g.put(0, 79, 1), 1001);
    }

    private static void put() {
        of(9, "Byte i of a TEXT is v, cut to a byte (-128 .. 127):");
        GuineaHours g = new GuineaHours();
        g.text(1, 80);
        int[] values = {127, 128, -128, -129, 255, 256, -256, MIN, MAX, 65536 + 104, 0};
        int[] cut = {127, -128, -128, 127, -1, 0, 0, 0, -1, 104, 0};
        for (int k = 0; k < values.length; k++) {
            g.put(1, 79, values[k]);
            due("after put(1, 79, " + values[k] + ")", g.put(1, 79, 1), 1000 + cut[k]);
        }
        of(9, "what it was, and 1000 more.");
        due("the first", g.put(1, 0, -128), 1032);
        due("the least", g.put(1, 0, 127), 872);
        due("the greatest", g.put(1, 0, 0), 1127);
        due("0", g.put(1, 0, 0), 1000);
        of(9, "BAD;");
        for (int t : NO_TEXTS) {
            due("put(" + t + ", 0, 1)", g.put(t, 0, 1), BAD);
        }
        of(9, "NOTHING;");
        finds(g, "put(0, 0, 1)", g.put(0, 0, 1), NOTHING);
        finds(g, "put(0, -1, 1), ahead of BEYOND", g.put(0, -1, 1), NOTHING);
        of(9, "BEYOND.");
        g.text(2, 0);
        finds(g, "put(2, 0, 1), an empty one", g.put(2, 0, 1), BEYOND);
        for (int i : new int[] {-1, 80, MIN, MAX}) {
            finds(g, "put(1, " + i + ", 1)", g.put(1, i, 1), BEYOND);
        }
    }

    private static void fault() {
        of(10, "A FAULT of a TEXT;");
        GuineaHours g = in(SMALL);
        write(g, 3, "h2 m1x0");
        due("fault(3)", g.fault(3), 5);
        due("fault(3) again", g.fault(3), 5);
        due("the TOWN stays", g.count(0), 3);
        due("its HOURS, too", g.count(1), 2);
        of(10, "NONE: there is none.");
        due("fault(0)", g.fault(0), NONE);
        write(g, 3, "h5");
        due("without PEOPLE", g.fault(3), NONE);
        due("it makes no TOWN", g.count(1), 2);
        due("whom one MAY give it stays", g.may(0, 1), 2);
        of(10, "BAD;");
        for (int t : NO_TEXTS) {
            due("fault(" + t + ")", g.fault(t), BAD);
        }
        of(10, "NOTHING.");
        finds(g, "fault(1)", g.fault(1), NOTHING);
    }

    private static void town() {
        of(11, "A TOWN by a TEXT");
        GuineaHours g = in(KINDS);
        write(g, 3, SMALL);
        g.times(2);
        g.back(1);
        g.begin(0);
        g.keep(0);
        g.keep(2);
        g.sight(0, 0, 1);
        due("town(3)", g.town(3), 3);
        due("HOURS", g.count(1), 2);
        due("its TEXT may change", g.put(3, 3, 120), 1000 + 'm');
        tells(g, "KIND", g.person(0, 0), 1, 0);
        of(11, "(anew: no DAY begun, no SIGHTS, kept DAYS;");
        due("no DAY", g.now(), STATE);
        due("none in HOURS", g.count(2), NONE);
        due("no SIGHTS", g.count(4), 0);
        due("no kept DAYS", g.count(5), 0);
        finds(g, "on(0)", g.on(0), NOTHING);
        finds(g, "on(2)", g.on(2), NOTHING);
        of(11, "TIMES, BACK stay)");
        due("TIMES", g.times(3), 2);
        due("BACK", g.back(0), 1);
        of(11, ": how many PEOPLE.");
        write(g, 1, "h5");
        due("none", g.town(1), 0);
        due("seven", in(SEVEN).count(0), 7);
        write(g, 1, SEVEN);
        due("seven", g.town(1), 7);
        write(g, 1, "h2 m000 m000");
        g.town(1);
        due("nothing of the greater one is left", g.may(0, 1), 2);
        tells(g, "no HOUR more", g.worth(0, 2), 9, NONE);
        tells(g, "nobody more", g.fits(), 2, 3);
        write(g, 1, SEVEN);
        g.town(1);
        of(11, "BAD;");
        for (int t : NO_TEXTS) {
            due("town(" + t + ")", g.town(t), BAD);
        }
        of(11, "NOTHING;");
        finds(g, "town(2)", g.town(2), NOTHING);
        of(11, "STATE: a FAULT.");
        g.begin(6);
        g.keep(1);
        g.sight(5, 6, 0);
        due("town(3)", g.town(3), STATE);
        g.text(2, 0);
        due("town(2), an empty TEXT", g.town(2), STATE);
        write(g, 2, "h1 x");
        due("town(2), a FAULT behind HOURS", g.town(2), STATE);
        due("PEOPLE stay", g.count(0), 7);
        due("HOURS stay", g.count(1), 5);
        due("whom one MAY give it stays", g.may(6, 4), 63);
        due("the DAY stays", g.now(), 6);
        due("SIGHTS stay", g.count(4), 1);
        due("kept DAYS stay", g.count(5), 1);
        due("STATE is no FINDING", g.finding(), NOTHING);
        of(11, "(STATE behind NOTHING.)");
        GuineaHours none = new GuineaHours();
        finds(none, "a missing TEXT", none.town(0), NOTHING);
    }

    private static void person() {
        GuineaHours g = in("h1 m00 p10 s20 e30 g40 t90");
        int[] fees = {0, 1, 2, 3, 4, 9};
        int[] more = {0, 0, 0, 1, 0, 2};
        for (int v = 1; v <= 5; v += 4) {
            g.times(v);
            for (int x = 0; x < 6; x++) {
                of(12, "Of one: 0 the KIND,");
                tells(g, "person(" + x + ", 0)", g.person(x, 0), 1, x);
                of(12, "1 the FEE,");
                tells(g, "person(" + x + ", 1)", g.person(x, 1), 1, fees[x]);
                of(12, "2 how often that one may have it, told by asked(): 1.");
                tells(g, "person(" + x + ", 2)", g.person(x, 2), 1, v + more[x]);
            }
        }
        of(12, "BAD.");
        for (int x : new int[] {-1, 6, 7, MIN, MAX}) {
            due("person(" + x + ", 0)", g.person(x, 0), BAD);
        }
        for (int what : new int[] {-1, 3, MIN, MAX}) {
            due("person(0, " + what + ")", g.person(0, what), BAD);
        }
        due("asked() stays", g.asked(), 7);
    }

    private static void place() {
        of(13, "Where one is in an HOUR (0 .. 5;");
        GuineaHours g = in("h5 m012345 m05432-");
        for (int h = 0; h < 5; h++) {
            tells(g, "place(0, " + h + ")", g.place(0, h), 1, h + 1);
        }
        tells(in("h1 m00"), "place 0", in("h1 m00").place(0, 0), 1, 0);
        of(13, "NONE: nowhere), told by asked(): 1.");
        tells(g, "place(1, 4)", g.place(1, 4), 1, NONE);
        of(13, "BAD (also an HOUR that there is not).");
        for (int h : new int[] {-1, 5, MIN, MAX}) {
            due("place(0, " + h + ")", g.place(0, h), BAD);
        }
        for (int x : new int[] {-1, 2, MIN, MAX}) {
            due("place(" + x + ", 0)", g.place(x, 0), BAD);
        }
        due("place(0, 1) of one HOUR", in("h1 m00").place(0, 1), BAD);
        due("asked() stays", g.asked(), NONE);
    }

    private static void mark() {
        of(14, "a PROUD one how many have a lesser number,");
        GuineaHours g = in("h1 p00 m00 m00 m00 m00 m00 p00");
        due("the first", g.mark(0, 1), 0);
        due("the last", g.mark(6, 1), 6);
        of(14, "a SHY one in how many HOURS it is with just one other,");
        g = in("h5 s0000-0 m0012-0 m00010-");
        due("never with two, never nowhere", g.mark(0, 2), 2);
        due("alone", in("h5 s000000").mark(0, 2), 0);
        due("always", in("h5 m000000 s000000").mark(1, 2), 5);
        due("both nowhere", in("h2 s0-- m0--").mark(0, 2), 0);
        of(14, "an ELDER (GREAT, too) how often that one may have it,");
        g = in("h1 e00 t00");
        due("an ELDER", g.mark(0, 3), 4);
        due("a GREAT one", g.mark(1, 3), 5);
        g.times(5);
        due("an ELDER by TIMES 5", g.mark(0, 3), 6);
        due("a GREAT one by TIMES 5", g.mark(1, 3), 7);
        g.times(1);
        due("an ELDER by TIMES 1", g.mark(0, 3), 2);
        of(14, "a GOOSE to whom it gives (NONE: alone in the TOWN),");
        g = in("h1 g00 m01 g0-");
        due("to the next, wherever", g.mark(0, 4), 1);
        due("to 0 behind the last", g.mark(2, 4), 0);
        due("alone", in("h1 g00").mark(0, 4), NONE);
        due("to a GREAT one, who won't take it", in("h1 g00 t00").mark(0, 4), 1);
        of(14, "a GREAT one how many GEESE there are.");
        due("none", in("h1 t00").mark(0, 5), 0);
        due("six, nowhere", in("h1 g0- g0- g0- t0- g0- g0- g0-").mark(3, 5), 6);
    }

    private static void markRefused() {
        GuineaHours g = in("h1 m00 p00 s00 e00 g00 t00");
        of(14, "BAD: also KIND 0;");
        for (int kind : new int[] {0, -1, 6, MIN, MAX}) {
            due("mark(0, " + kind + ")", g.mark(0, kind), BAD);
        }
        due("mark(1, 0), that IS a HAND, too", g.mark(1, 0), BAD);
        for (int x : new int[] {-1, 6, MIN, MAX}) {
            due("mark(" + x + ", 1)", g.mark(x, 1), BAD);
        }
        due("no FINDING", g.finding(), 0);
        of(14, "UNLIKE.");
        int found = 0;
        for (int x = 0; x < 6; x++) {
            for (int kind = 1; kind <= 5; kind++) {
                if (kind != x && !(x == 5 && kind == 3)) {
                    finds(g, "mark(" + x + ", " + kind + ")", g.mark(x, kind), UNLIKE);
                    found++;
                }
            }
        }
        due("findings(3)", g.findings(UNLIKE), found);
        of(14, "What one who IS of a KIND tells:");
        due("a GREAT one as an ELDER", g.mark(5, 3), 5);
        due("a GREAT one", g.mark(5, 5), 1);
        due("an ELDER", g.mark(3, 3), 4);
    }

    private static void laws() {
        of(15, "TIMES are v (1 .. 5): what they were.");
        GuineaHours g = in("h1 m00");
        due("times(1)", g.times(1), 3);
        due("times(5)", g.times(5), 1);
        of(15, "BAD.");
        for (int v : new int[] {0, 6, -1, MIN, MAX}) {
            due("times(" + v + ")", g.times(v), BAD);
        }
        due("they stay", g.times(3), 5);
        of(16, "BACK is v (0, 1): what it was.");
        due("back(0)", g.back(0), 0);
        due("back(1)", g.back(1), 0);
        of(16, "BAD.");
        for (int v : new int[] {2, -1, MIN, MAX}) {
            due("back(" + v + ")", g.back(v), BAD);
        }
        due("it stays", g.back(0), 1);
    }

    private static void may() {
        of(17, "To whom one MAY give it in an HOUR (bits).");
        GuineaHours g = in(SEVEN);
        due("may(0, 0)", g.may(0, 0), 126);
        due("may(6, 4)", g.may(6, 4), 63);
        due("nobody", in("h1 m00").may(0, 0), 0);
        g.times(1);
        g.back(1);
        g.begin(0);
        g.give(1);
        due("TIMES, BACK don't matter", g.may(1, 1), 125);
        of(17, "BAD.");
        for (int h : new int[] {-1, 5, MIN, MAX}) {
            due("may(0, " + h + ")", g.may(0, h), BAD);
        }
        for (int x : new int[] {-1, 7, MIN, MAX}) {
            due("may(" + x + ", 0)", g.may(x, 0), BAD);
        }
        due("without a TOWN", new GuineaHours().may(0, 0), BAD);
    }
}
