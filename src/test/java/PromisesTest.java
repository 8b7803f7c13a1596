/** For each promise of the document: ordinary inputs, the edges that it names, wrong inputs. */
public final class PromisesTest extends Check {
    public static void main(String[] args) {
        newObject();
        rows();
        copies();
        means();
        texts();
        faults();
        towns();
        people();
        marks();
        laws();
        mayGive();
        begins();
        gives();
        days();
        goings();
        keptDays();
        judges();
        waysOfHands();
        barsAndLeast();
        worths();
        sets();
        shares();
        sightings();
        fitting();
        chance();
        sending();
        twoGuineas();
        byLots();
        told();
        counts();
        digests();
        unbrokenByAnything();
        end();
    }

    private static void newObject() {
        of(1);
        GuineaHours g = new GuineaHours();
        int[] counts = {0, 0, NONE, 0, 0, 0, 0, 0};
        for (int what = 0; what < 8; what++) {
            due("count(" + what + ")", g.count(what), counts[what]);
        }
        due("asked()", g.asked(), 0);
        due("upper()", g.upper(), 0);
        due("lower()", g.lower(), 1);
        due("finding()", g.finding(), 0);
        due("times(3)", g.times(3), 3);
        due("back(0)", g.back(0), 0);
        for (int r = 0; r < 6; r++) {
            finds(g, "tear(" + r + ")", g.tear(r), NOTHING);
        }
        for (int t = 0; t < 4; t++) {
            finds(g, "fault(" + t + ")", g.fault(t), NOTHING);
        }
    }

    private static void rows() {
        GuineaHours g = new GuineaHours();
        of(2);
        due("row(0, 0)", g.row(0, 0), 0);
        due("row(5, 40)", g.row(5, 40), 40);
        due("row(6, 1)", g.row(6, 1), BAD);
        due("row(-1, 1)", g.row(-1, 1), BAD);
        due("row(0, 41)", g.row(0, 41), BAD);
        due("row(6, -1)", g.row(6, -1), BAD);
        due("findings(5)", g.findings(5), 0);
        finds(g, "row(0, -1)", g.row(0, -1), SIZE);
        finds(g, "row(0, MIN)", g.row(0, MIN), SIZE);
        g.lay(5, 39, 8);
        due("row(5, 40) again", g.row(5, 40), 40);
        tells(g, "at(5, 39)", g.at(5, 39), 1, 0);
        of(3);
        g.row(1, 3);
        tells(g, "lay(1, 2, 7)", g.lay(1, 2, 7), 1, 0);
        tells(g, "lay(1, 2, MIN)", g.lay(1, 2, MIN), 1, 7);
        tells(g, "lay(1, 2, 5)", g.lay(1, 2, 5), 1, MIN);
        finds(g, "lay(1, 3, 1)", g.lay(1, 3, 1), BEYOND);
        finds(g, "lay(1, -1, 1)", g.lay(1, -1, 1), BEYOND);
        finds(g, "lay(2, 9, 1)", g.lay(2, 9, 1), NOTHING);
        due("lay(6, 0, 1)", g.lay(6, 0, 1), BAD);
        due("lay(-1, 0, 1)", g.lay(-1, 0, 1), BAD);
        due("asked() stays", g.asked(), MIN);
        of(4);
        tells(g, "at(1, 2)", g.at(1, 2), 1, 5);
        tells(g, "at(1, 0)", g.at(1, 0), 1, 0);
        finds(g, "at(1, 3)", g.at(1, 3), BEYOND);
        finds(g, "at(0, 0) of an empty ROW", g.at(0, 0), BEYOND);
        finds(g, "at(2, 0)", g.at(2, 0), NOTHING);
        due("at(6, 0)", g.at(6, 0), BAD);
        of(5);
        due("tear(1)", g.tear(1), 1);
        finds(g, "at(1, 0)", g.at(1, 0), NOTHING);
        finds(g, "tear(1)", g.tear(1), NOTHING);
        due("tear(6)", g.tear(6), BAD);
        due("tear(-1)", g.tear(-1), BAD);
        due("count(6)", g.count(6), 2);
    }

    private static void copies() {
        of(6);
        GuineaHours g = new GuineaHours();
        fill(g, 0, 1, 2, 3, 4, 5);
        fill(g, 1, 9, 9);
        due("copy(0, 1, 1, 0, 2)", g.copy(0, 1, 1, 0, 2), 1);
        rowIs(g, 1, 2, 3);
        due("copy(0, 0, 0, 1, 4)", g.copy(0, 0, 0, 1, 4), 1);
        rowIs(g, 0, 1, 1, 2, 3, 4);
        due("copy(0, 1, 0, 0, 4)", g.copy(0, 1, 0, 0, 4), 1);
        rowIs(g, 0, 1, 2, 3, 4, 4);
        due("none, at both ends", g.copy(0, 5, 1, 2, 0), 1);
        finds(g, "none, i above", g.copy(0, 6, 1, 0, 0), BEYOND);
        finds(g, "none, i below", g.copy(0, -1, 1, 0, 0), BEYOND);
        finds(g, "none, j above", g.copy(0, 0, 1, 3, 0), BEYOND);
        finds(g, "none, j below", g.copy(0, 0, 1, -1, 0), BEYOND);
        finds(g, "too many", g.copy(0, 0, 1, 0, 3), BEYOND);
        finds(g, "too many of one", g.copy(0, 4, 0, 0, 2), BEYOND);
        finds(g, "by far too many", g.copy(0, 1, 0, 1, MAX), BEYOND);
        finds(g, "far away", g.copy(0, MAX, 0, 0, 1), BEYOND);
        g.row(4, 0);
        due("none of an empty ROW", g.copy(4, 0, 0, 5, 0), 1);
        due("none to an empty ROW", g.copy(0, 5, 4, 0, 0), 1);
        finds(g, "one of an empty ROW", g.copy(4, 0, 0, 0, 1), BEYOND);
        finds(g, "NOTHING ahead of BEYOND", g.copy(0, 99, 2, 0, 1), NOTHING);
        finds(g, "NOTHING, from", g.copy(2, 0, 0, 0, 0), NOTHING);
        finds(g, "SIZE ahead of NOTHING", g.copy(2, 0, 3, 0, -1), SIZE);
        due("BAD ahead of SIZE", g.copy(6, 0, 0, 0, -1), BAD);
        due("BAD, to", g.copy(0, 0, -1, 0, 1), BAD);
        rowIs(g, 0, 1, 2, 3, 4, 4);
    }

    private static void means() {
        of(7);
        GuineaHours g = new GuineaHours();
        fill(g, 0, 5, 2);
        tells(g, "mean of 5, 2", g.mean(0), 1, 3);
        fill(g, 0, -3, 0);
        tells(g, "mean of -3, 0", g.mean(0), 1, -1);
        fill(g, 0, MAX, MAX, MAX);
        tells(g, "mean of the greatest", g.mean(0), 1, MAX);
        fill(g, 0, MIN, MIN);
        tells(g, "mean of the least", g.mean(0), 1, MIN);
        g.row(1, 0);
        finds(g, "mean of none", g.mean(1), NOUGHT);
        finds(g, "mean(2)", g.mean(2), NOTHING);
        due("mean(6)", g.mean(6), BAD);
        due("asked() stays", g.asked(), MIN);
    }

    private static void texts() {
        GuineaHours g = new GuineaHours();
        of(8);
        due("text(0, 80)", g.text(0, 80), 80);
        due("text(3, 0)", g.text(3, 0), 0);
        due("text(0, 81)", g.text(0, 81), BAD);
        due("text(4, 1)", g.text(4, 1), BAD);
        due("text(-1, -1)", g.text(-1, -1), BAD);
        finds(g, "text(0, -1)", g.text(0, -1), SIZE);
        of(9);
        due("put(0, 79, 200)", g.put(0, 79, 200), 1032);
        due("put(0, 79, -129)", g.put(0, 79, -129), 944);
        due("put(0, 79, 0)", g.put(0, 79, 0), 1127);
        due("put(0, 79, -128)", g.put(0, 79, -128), 1000);
        due("put(0, 79, 256)", g.put(0, 79, 256), 872);
        finds(g, "put(0, 80, 1)", g.put(0, 80, 1), BEYOND);
        finds(g, "put(0, -1, 1)", g.put(0, -1, 1), BEYOND);
        finds(g, "put(3, 0, 1)", g.put(3, 0, 1), BEYOND);
        finds(g, "put(1, 0, 1)", g.put(1, 0, 1), NOTHING);
        due("put(4, 0, 1)", g.put(4, 0, 1), BAD);
        g.text(0, 80);
        due("blanks anew", g.put(0, 79, 0), 1032);
    }

    private static void faults() {
        of(10);
        faultIs("", 0);
        faultIs("   ", 3);
        faultIs("h", 1);
        faultIs("  h", 3);
        faultIs("h0", 1);
        faultIs("h6", 1);
        faultIs("h 1", 1);
        faultIs("H1", 0);
        faultIs("m00", 0);
        faultIs("h1", NONE);
        faultIs("  h5  ", NONE);
        faultIs("h12", 2);
        faultIs("h1 m", 4);
        faultIs("h1 m0", 5);
        faultIs("h1 m00", NONE);
        faultIs("h1 m0-", NONE);
        faultIs("h1 m-0", 4);
        faultIs("h1 m06", 5);
        faultIs("h1 m95   s9-  ", NONE);
        faultIs("h1 m 0", 4);
        faultIs("h1 m0 ", 5);
        faultIs("h1 m000", 6);
        faultIs("h1 x00", 3);
        faultIs("h1 h1", 3);
        faultIs("h1m00p00s00e00g00t00", NONE);
        faultIs("h2 m00 m000", 6);
        faultIs("h1 m00 m00 m00 m00 m00 m00 m00", NONE);
        faultIs("h1 m00 m00 m00 m00 m00 m00 m00 ", NONE);
        faultIs("h1 m00 m00 m00 m00 m00 m00 m00 m", 31);
        faultIs("h1 m00 m00 m00 m00 m00 m00 m00m00", 30);
        faultIs("h5 m012345", NONE);
        faultIs("h5 m01234", 9);
        faultIs("h5 m01234 ", 9);
        faultIs("h5 m01234-m012", 14);
        faultIs("h5 m0-----p9543210", 17);
        GuineaHours g = new GuineaHours();
        write(g, 0, "h1 m00");
        g.put(0, 5, 48 + 128);
        due("a byte below 0", g.fault(0), 5);
        finds(g, "fault(1)", g.fault(1), NOTHING);
        due("fault(4)", g.fault(4), BAD);
        due("fault(-1)", g.fault(-1), BAD);
    }

    private static void towns() {
        of(11);
        GuineaHours g = in(SMALL);
        due("count(0)", g.count(0), 3);
        due("count(1)", g.count(1), 2);
        g.times(2);
        g.back(1);
        g.begin(0);
        g.keep(1);
        g.sight(0, 0, 1);
        write(g, 1, "h9");
        due("a FAULT", g.town(1), STATE);
        finds(g, "town(3)", g.town(3), NOTHING);
        due("town(4)", g.town(4), BAD);
        due("DAY stays", g.count(2), 0);
        due("SIGHTS stay", g.count(4), 1);
        due("kept DAYS stay", g.count(5), 1);
        due("PEOPLE stay", g.count(0), 3);
        due("town(0) again", g.town(0), 3);
        due("no DAY", g.count(2), NONE);
        due("no SIGHTS", g.count(4), 0);
        due("no kept DAYS", g.count(5), 0);
        finds(g, "on(1)", g.on(1), NOTHING);
        due("undo()", g.undo(), STATE);
        due("TIMES stay", g.times(3), 2);
        due("BACK stays", g.back(0), 1);
        g.put(0, 3, 112);
        tells(g, "a TOWN is no longer its TEXT", g.person(0, 0), 1, 0);
        write(g, 2, "h3");
        due("none, too", g.town(2), 0);
        due("count(1)", g.count(1), 3);
        due("person(0, 0)", g.person(0, 0), BAD);
    }

    private static void people() {
        GuineaHours g = in(KINDS);
        of(12);
        int[] fees = {1, 2, 0, 3, 1, 2, 4};
        int[] kinds = {0, 1, 2, 3, 4, 5, 0};
        int[] often = {3, 3, 3, 4, 3, 5, 3};
        for (int x = 0; x < 7; x++) {
            tells(g, "person(" + x + ", 0)", g.person(x, 0), 1, kinds[x]);
            tells(g, "person(" + x + ", 1)", g.person(x, 1), 1, fees[x]);
            tells(g, "person(" + x + ", 2)", g.person(x, 2), 1, often[x]);
        }
        g.times(5);
        tells(g, "by TIMES", g.person(5, 2), 1, 7);
        due("person(7, 0)", g.person(7, 0), BAD);
        due("person(-1, 0)", g.person(-1, 0), BAD);
        due("person(0, 3)", g.person(0, 3), BAD);
        due("person(0, -1)", g.person(0, -1), BAD);
        of(13);
        tells(g, "place(0, 3)", g.place(0, 3), 1, 2);
        tells(g, "place(3, 3)", g.place(3, 3), 1, NONE);
        tells(g, "place(5, 0)", g.place(5, 0), 1, 1);
        due("place(0, 4)", g.place(0, 4), BAD);
        due("place(0, -1)", g.place(0, -1), BAD);
        due("place(7, 0)", g.place(7, 0), BAD);
        due("asked() stays", g.asked(), 1);
    }

    private static void marks() {
        of(14);
        GuineaHours g = in(KINDS);
        due("PROUD", g.mark(1, 1), 1);
        due("SHY", g.mark(2, 2), 1);
        due("ELDER", g.mark(3, 3), 4);
        due("GOOSE", g.mark(4, 4), 5);
        due("GREAT", g.mark(5, 5), 1);
        due("GREAT as an ELDER", g.mark(5, 3), 5);
        finds(g, "an ELDER is not GREAT", g.mark(3, 5), UNLIKE);
        finds(g, "a HAND", g.mark(0, 1), UNLIKE);
        due("KIND 0", g.mark(0, 0), BAD);
        due("KIND 6", g.mark(0, 6), BAD);
        due("mark(7, 1)", g.mark(7, 1), BAD);
        due("findings(3)", g.findings(3), 2);
        g.times(1);
        due("GREAT by TIMES", g.mark(5, 3), 3);
        g = in("h1 g00");
        due("a GOOSE alone", g.mark(0, 4), NONE);
        g = in("h1 t00 g00 g00 g00");
        due("the last GOOSE", g.mark(3, 4), 0);
        due("three GEESE", g.mark(0, 5), 3);
        g = in("h3 s00-0 m00-0 m010-");
        due("SHY and nowhere", g.mark(0, 2), 2);
    }

    private static void laws() {
        of(15);
        GuineaHours g = new GuineaHours();
        due("times(5)", g.times(5), 3);
        due("times(6)", g.times(6), BAD);
        due("times(0)", g.times(0), BAD);
        due("times(1)", g.times(1), 5);
        due("times(2)", g.times(2), 1);
        g = in(CROWD);
        g.times(1);
        g.begin(0);
        g.give(1);
        due("not once more by TIMES 1", g.can(), 0b1100);
        g.times(2);
        due("once more by TIMES 2", g.can(), 0b1101);
        of(16);
        due("back(1)", g.back(1), 0);
        due("back(2)", g.back(2), BAD);
        due("back(-1)", g.back(-1), BAD);
        due("not back", g.can(), 0b1100);
        due("back(0)", g.back(0), 1);
        due("back again", g.can(), 0b1101);
    }

    private static void mayGive() {
        of(17);
        GuineaHours g = in(KINDS);
        due("may(0, 0)", g.may(0, 0), 0b1011010);
        due("may(2, 0): a PROUD one takes it from no greater number", g.may(2, 0), 0b1011001);
        due("may(0, 3): a SHY one not where three are", g.may(0, 3), 0b0010000);
        due("may(5, 2): a SHY one where both are", g.may(5, 2), 0b0000100);
        due("may(3, 3): nowhere", g.may(3, 3), 0);
        due("may(4, 0): a GOOSE whose next is elsewhere", g.may(4, 0), 0);
        due("may(0, 4)", g.may(0, 4), BAD);
        due("may(0, -1)", g.may(0, -1), BAD);
        due("may(7, 0)", g.may(7, 0), BAD);
        g = in("h1 m00 g00 m00 g00");
        due("a GOOSE to the next", g.may(1, 0), 0b0100);
        due("the last GOOSE to 0", g.may(3, 0), 0b0001);
        due("a HAND to all others", g.may(0, 0), 0b1110);
        g = in("h1 m00 g00 m00");
        due("a GOOSE to the last", g.may(1, 0), 0b100);
        g = in("h1 g00 t00 g00 e00 m0- m0-");
        due("a GREAT one takes it from no GOOSE", g.may(0, 0), 0);
        due("an ELDER takes it from a GOOSE", g.may(2, 0), 0b1000);
        due("a GREAT one takes it from others", g.may(3, 0), 0b0111);
        due("two who are nowhere are not together", g.may(4, 0), 0);
        g = in("h1 g00");
        due("a GOOSE alone", g.may(0, 0), 0);
        g = in("h1 g00 p00 g00");
        due("a GOOSE to a PROUD one", g.may(0, 0), 0b010);
        g = in("h1 p00 g00");
        due("a PROUD one from a greater GOOSE", g.may(1, 0), 0);
        g = in("h1 g00 s00 m01");
        due("a GOOSE to a SHY one", g.may(0, 0), 0b010);
    }

    private static void begins() {
        of(18);
        GuineaHours g = new GuineaHours();
        due("without HOURS", g.begin(0), BAD);
        g = in(SMALL);
        due("begin(0)", g.begin(0), 2);
        due("begin(2)", g.begin(2), 1);
        tells(g, "now()", g.now(), 2, 0);
        due("begin(3)", g.begin(3), BAD);
        due("begin(-1)", g.begin(-1), BAD);
        tells(g, "still", g.now(), 2, 0);
        g.give(0);
        due("anew", g.begin(1), 2);
        due("HOUR 0", g.count(2), 0);
        g = in("h1 m0-");
        due("nowhere", g.begin(0), 0);
    }

    private static void gives() {
        of(19);
        GuineaHours g = in(SMALL);
        due("no DAY", g.give(0), STATE);
        due("BAD ahead of STATE", g.give(3), BAD);
        g.begin(0);
        due("to oneself", g.give(0), STATE);
        due("give(-1)", g.give(-1), BAD);
        due("give(1)", g.give(1), 1);
        due("one who is nowhere", g.give(2), STATE);
        g.back(1);
        due("BACK", g.give(0), STATE);
        g.back(0);
        g.times(1);
        due("too often", g.give(0), STATE);
        g.times(2);
        due("give(0)", g.give(0), 2);
        due("MIDNIGHT", g.give(1), STATE);
        g = in("h5 m000000 e000000 t000000");
        g.times(1);
        g.begin(2);
        g.give(1);
        g.give(2);
        due("an ELDER once more", g.give(1), 3);
        due("an ELDER had it often enough", g.often(1), 2);
        due("GREAT twice more", g.give(2), 4);
        due("an ELDER not twice more", g.give(1), STATE);
        due("a HAND", g.give(0), 5);
    }

    private static void days() {
        GuineaHours g = in(CROWD);
        of(20);
        due("no DAY", g.undo(), STATE);
        g.begin(0);
        due("none given", g.undo(), STATE);
        g.give(1);
        g.give(2);
        due("undo()", g.undo(), 1);
        due("undo() again", g.undo(), 0);
        due("and again", g.undo(), STATE);
        of(21);
        tells(g, "now()", g.now(), 0, 0);
        g.give(3);
        tells(g, "now() in HOUR 1", g.now(), 3, 1);
        g.give(0);
        g.give(1);
        tells(g, "now() at MIDNIGHT", g.now(), 1, 3);
        due("no DAY", in(CROWD).now(), STATE);
        of(22);
        due("often(0)", g.often(0), 2);
        due("often(2)", g.often(2), 0);
        due("often(1)", g.often(1), 1);
        due("often(4)", g.often(4), BAD);
        due("often(-1)", g.often(-1), BAD);
        g.undo();
        due("often(1), undone", g.often(1), 0);
        due("no DAY", in(CROWD).often(0), STATE);
        due("BAD ahead of STATE", in(CROWD).often(4), BAD);
        of(23);
        due("can()", g.can(), 0b1110);
        g.back(1);
        due("can() by BACK", g.can(), 0b0110);
        g.give(1);
        due("can() at MIDNIGHT", g.can(), 0);
        due("no DAY", in(CROWD).can(), STATE);
    }

    private static void goings() {
        of(24);
        GuineaHours g = in(SMALL);
        due("no DAY", g.ends(), STATE);
        g.begin(0);
        tells(g, "ends()", g.ends(), 1, 0b001);
        g.give(2);
        tells(g, "where none can be", g.ends(), 0, 0);
        g.undo();
        g.give(1);
        tells(g, "in HOUR 1", g.ends(), 1, 0b001);
        g.give(0);
        tells(g, "at MIDNIGHT", g.ends(), 1, 0b001);
        g = in(CROWD);
        g.begin(0);
        tells(g, "27 rows", g.ends(), 27, 0b1111);
        g.back(1);
        tells(g, "by BACK", g.ends(), 12, 0b1111);
        g.times(1);
        tells(g, "by TIMES 1", g.ends(), 6, 0b1110);
        g.give(1);
        tells(g, "by TIMES 1 in HOUR 1", g.ends(), 2, 0b1100);
    }

    private static void keptDays() {
        GuineaHours g = in(CROWD);
        of(25);
        due("no DAY", g.keep(0), STATE);
        due("BAD ahead of STATE", g.keep(3), BAD);
        g.begin(0);
        g.give(1);
        g.times(2);
        g.back(1);
        due("keep(0)", g.keep(0), 1);
        due("keep(-1)", g.keep(-1), BAD);
        due("count(5)", g.count(5), 1);
        g.give(2);
        due("keep(2)", g.keep(2), 2);
        due("count(5)", g.count(5), 2);
        of(26);
        g.give(3);
        g.times(4);
        g.back(0);
        due("on(0)", g.on(0), 1);
        tells(g, "now()", g.now(), 1, 1);
        due("can() by BACK as kept", g.can(), 0b1100);
        due("TIMES as kept", g.times(5), 2);
        due("BACK as kept", g.back(0), 1);
        due("on(0) once more", g.on(0), 1);
        due("TIMES as kept", g.times(2), 2);
        due("undo()", g.undo(), 0);
        due("on(2)", g.on(2), 2);
        tells(g, "now()", g.now(), 2, 2);
        due("undo()", g.undo(), 1);
        tells(g, "now()", g.now(), 1, 1);
        finds(g, "on(1)", g.on(1), NOTHING);
        due("on(3)", g.on(3), BAD);
        due("on(-1)", g.on(-1), BAD);
        g.begin(3);
        due("kept anew", g.keep(0), 0);
        g.begin(2);
        g.on(0);
        tells(g, "now()", g.now(), 3, 0);
    }

    private static void judges() {
        of(27);
        GuineaHours g = new GuineaHours();
        due("STATE ahead of NOTHING", g.judge(0), STATE);
        due("BAD ahead of STATE", g.judge(6), BAD);
        g = in(CROWD);
        finds(g, "judge(0)", g.judge(0), NOTHING);
        fill(g, 0, 0, 1, 2);
        finds(g, "too few", g.judge(0), SIZE);
        g.row(0, 0);
        finds(g, "an empty ROW", g.judge(0), SIZE);
        fill(g, 0, 9, 1, 2, 3, 0);
        finds(g, "SIZE ahead of UNLIKE", g.judge(0), SIZE);
        fill(g, 0, 0, 0, 2, 4);
        finds(g, "one that is none", g.judge(0), UNLIKE);
        fill(g, 0, -1, 1, 2, 3);
        finds(g, "one below 0", g.judge(0), UNLIKE);
        fill(g, 0, 0, 1, 0, 1);
        tells(g, "by THE LAW", g.judge(0), 3, 0);
        g.back(1);
        tells(g, "BACK", g.judge(0), 1, 2);
        g.times(1);
        tells(g, "BACK ahead of too often", g.judge(0), 1, 2);
        g.back(0);
        tells(g, "too often", g.judge(0), 1, 3);
        g.times(2);
        tells(g, "not too often", g.judge(0), 3, 0);
        g.times(1);
        fill(g, 0, 0, 1, 2, 0);
        tells(g, "too often at last", g.judge(0), 2, 3);
        fill(g, 0, 2, 2, 2, 0);
        tells(g, "MAY not ahead of too often", g.judge(0), 0, 1);
        due("a DAY is not begun by it", g.count(2), NONE);
        g = in("h3");
        g.row(0, 4);
        finds(g, "no PEOPLE", g.judge(0), UNLIKE);
    }

    private static void waysOfHands() {
        GuineaHours g = in(SMALL);
        of(28);
        due("ways(0, 0)", g.ways(0, 0), 1);
        due("ways(0, 1)", g.ways(0, 1), 0);
        due("ways(2, 1)", g.ways(2, 1), 1);
        due("ways(3, 0)", g.ways(3, 0), BAD);
        due("ways(0, 3)", g.ways(0, 3), BAD);
        due("ways(-1, 0)", g.ways(-1, 0), BAD);
        g = in(CROWD);
        due("to another one", g.ways(0, 1), 7);
        due("to the same", g.ways(2, 2), 6);
        g.times(1);
        due("by TIMES 1", g.ways(0, 1), 2);
        due("to the same by TIMES 1", g.ways(2, 2), 0);
        g.times(3);
        g.back(1);
        due("by BACK", g.ways(0, 1), 2);
        due("to the same by BACK", g.ways(2, 2), 6);
        of(29);
        due("way(0, 1, 3)", g.way(0, 1, 3), 1);
        rowIs(g, 3, 0, 2, 3, 1);
        g.back(0);
        fill(g, 3, 5, 5, 5, 5, 5, 5, 5);
        due("way(0, 1, 3) without BACK", g.way(0, 1, 3), 1);
        rowIs(g, 3, 0, 1, 0, 1);
        g.times(1);
        fill(g, 3, 8, 8);
        due("NONE", g.way(0, 0, 3), NONE);
        rowIs(g, 3, 8, 8);
        due("NONE, missing", g.way(0, 0, 4), NONE);
        finds(g, "still missing", g.at(4, 0), NOTHING);
        due("way(0, 1, 6)", g.way(0, 1, 6), BAD);
        due("way(4, 1, 0)", g.way(4, 1, 0), BAD);
        due("way(0, -1, 0)", g.way(0, -1, 0), BAD);
    }

    private static void barsAndLeast() {
        GuineaHours g = in(SMALL);
        of(30);
        due("bars(0, 0)", g.bars(0, 0), 0b010);
        due("bars(2, 1)", g.bars(2, 1), 0b001);
        due("without any ROW", g.bars(0, 1), 0b100);
        due("without any ROW, the same", g.bars(2, 2), 0b011);
        due("bars(3, 0)", g.bars(3, 0), BAD);
        due("bars(0, -1)", g.bars(0, -1), BAD);
        due("nobody bars it", in(CROWD).bars(0, 1), 0);
        due("one is in each ROW, not in one HOUR", in("h3 m00-- m0--0 m0000 m0000").bars(0, 1), 0b1100);
        of(31);
        due("least(0, 0)", g.least(0, 0), 2);
        due("least(2, 1)", g.least(2, 1), 1);
        due("least(0, 1)", g.least(0, 1), NONE);
        g.times(1);
        due("whatever TIMES are", g.least(0, 0), 2);
        due("TIMES stay", g.times(3), 1);
        g.back(1);
        due("by BACK", g.least(0, 0), NONE);
        due("least(0, 3)", g.least(0, 3), BAD);
        due("least(-1, 0)", g.least(-1, 0), BAD);
        g = in("h5 m000000 m000000");
        due("three times", g.least(0, 1), 3);
        g = in("h5 e000000 t000000");
        due("an ELDER, a GREAT one", g.least(0, 1), 2);
    }

    private static void worths() {
        GuineaHours g = in(SMALL);
        of(32);
        tells(g, "MIDNIGHT", g.worth(0, 2), 9, NONE);
        tells(g, "worth(0, 1)", g.worth(0, 1), 8, 1);
        tells(g, "nobody", g.worth(2, 1), 0, NONE);
        tells(g, "worth(0, 0)", g.worth(0, 0), 7, 1);
        tells(g, "worth(2, 0)", g.worth(2, 0), 7, 0);
        g.times(1);
        g.back(1);
        tells(g, "TIMES, BACK aside", g.worth(0, 0), 7, 1);
        due("worth(0, 3)", g.worth(0, 3), BAD);
        due("worth(0, -1)", g.worth(0, -1), BAD);
        due("worth(3, 0)", g.worth(3, 0), BAD);
        due("asked() stays", g.asked(), 1);
        g = in("h2 m500 m900 m600");
        tells(g, "0 at least", g.worth(1, 0), 0, 0);
        g = in("h1 m00 m30 m30");
        tells(g, "the first of alike ones", g.worth(0, 0), 6, 1);
        of(33);
        g = in(SMALL);
        tells(g, "best(2)", g.best(2), 0, 9);
        tells(g, "best(1)", g.best(1), 0, 8);
        tells(g, "best(0)", g.best(0), 0, 7);
        GuineaHours other = in("h1 m01 m10 m20 m30");
        tells(other, "not the first", other.best(0), 2, 8);
        due("best(3)", g.best(3), BAD);
        due("best(-1)", g.best(-1), BAD);
        due("no PEOPLE", in("h2").best(2), STATE);
        due("no HOURS", new GuineaHours().best(0), STATE);
        due("no HOURS, HOUR 1", new GuineaHours().best(1), BAD);
    }

    private static void sets() {
        GuineaHours g = in(SMALL);
        of(34);
        tells(g, "keeps(3, 0)", g.keeps(3, 0), 2, 3);
        tells(g, "keeps(5, 0)", g.keeps(5, 0), 1, 5);
        tells(g, "keeps(7, 0)", g.keeps(7, 0), 2, 7);
        tells(g, "keeps(4, 0)", g.keeps(4, 0), 0, 4);
        tells(g, "keeps(6, 0)", g.keeps(6, 0), 1, 2);
        tells(g, "keeps(7, 1)", g.keeps(7, 1), 1, 3);
        tells(g, "keeps(7, 2)", g.keeps(7, 2), 0, 7);
        due("an empty set", g.keeps(0, 0), NONE);
        due("asked() stays", g.asked(), 7);
        due("keeps(8, 0)", g.keeps(8, 0), BAD);
        due("keeps(-1, 0)", g.keeps(-1, 0), BAD);
        due("keeps(1, 3)", g.keeps(1, 3), BAD);
        due("BAD ahead of NONE", g.keeps(0, -1), BAD);
        due("without a TOWN", new GuineaHours().keeps(0, 0), NONE);
        due("a set without PEOPLE", new GuineaHours().keeps(1, 0), BAD);
        of(35);
        tells(g, "fewest(0)", g.fewest(0), 2, 3);
        tells(g, "fewest(1)", g.fewest(1), 2, 3);
        tells(g, "fewest(2)", g.fewest(2), 1, 1);
        due("fewest(3)", g.fewest(3), BAD);
        due("fewest(-1)", g.fewest(-1), BAD);
        GuineaHours apart = in("h1 m00 m01");
        due("none does", apart.fewest(0), NONE);
        due("asked() stays", apart.asked(), 0);
        due("no PEOPLE", in("h1").fewest(1), NONE);
        due("no TOWN", new GuineaHours().fewest(0), NONE);
        GuineaHours other = in("h2 m00- m001 m0-1 m022 m022");
        tells(other, "fewer, though greater bits", other.fewest(0), 2, 24);
        other = in("h2 m00- m001 m0-1");
        tells(other, "all together", other.fewest(0), 3, 7);
    }

    private static void shares() {
        of(36);
        GuineaHours g = in(SMALL);
        finds(g, "missing", g.leaves(0, 0), NOTHING);
        fill(g, 0, 5, 4, 0);
        due("nobody leaves", g.leaves(0, 0), 0);
        due("at MIDNIGHT one alone does", g.leaves(0, 2), 1);
        fill(g, 0, 9, 0, 0);
        due("at MIDNIGHT another one does", g.leaves(0, 2), 2);
        fill(g, 0, 5, 3, 1);
        due("both leave", g.leaves(0, 0), 3);
        fill(g, 0, 5, 3, 2);
        finds(g, "not 9 together", g.leaves(0, 0), UNLIKE);
        fill(g, 0, 10, -1, 0);
        finds(g, "a number that is none", g.leaves(0, 0), UNLIKE);
        fill(g, 0, MAX, MAX, 11);
        finds(g, "numbers that wrap around to 9", g.leaves(0, 0), UNLIKE);
        fill(g, 0, 5, 4);
        finds(g, "too few", g.leaves(0, 0), SIZE);
        g.row(0, 0);
        finds(g, "an empty ROW", g.leaves(0, 0), SIZE);
        fill(g, 0, 50, 4, 0, 0);
        finds(g, "SIZE ahead of UNLIKE", g.leaves(0, 0), SIZE);
        due("leaves(0, 3)", g.leaves(0, 3), BAD);
        due("leaves(6, 0)", g.leaves(6, 0), BAD);
        due("no PEOPLE ahead of NOTHING", in("h1").leaves(0, 0), STATE);
        due("no TOWN", new GuineaHours().leaves(0, 0), STATE);
        due("BAD ahead of STATE", new GuineaHours().leaves(0, 1), BAD);
        g = in("h1 m00 m01");
        fill(g, 0, 9, 0);
        due("no set keeps it", g.leaves(0, 0), 0);
    }

    private static void sightings() {
        GuineaHours g = in(SMALL);
        of(37);
        due("no TOWN", new GuineaHours().sight(0, 0, 1), BAD);
        due("sight(0, 0, 1)", g.sight(0, 0, 1), 0);
        due("sight(2, 1, 0) at MIDNIGHT", g.sight(2, 1, 0), 1);
        due("sight(3, 0, 1)", g.sight(3, 0, 1), BAD);
        due("sight(-1, 0, 1)", g.sight(-1, 0, 1), BAD);
        due("sight(0, 3, 1)", g.sight(0, 3, 1), BAD);
        due("sight(0, 0, 2)", g.sight(0, 0, 2), BAD);
        due("sight(0, 0, -1)", g.sight(0, 0, -1), BAD);
        for (int n = 2; n < 8; n++) {
            due("sight", g.sight(1, 1, 1), n);
        }
        due("a ninth one", g.sight(1, 1, 1), FULL);
        due("BAD ahead of FULL", g.sight(1, 3, 1), BAD);
        due("count(4)", g.count(4), 8);
        of(38);
        due("forget(9)", g.forget(9), BAD);
        due("none from number 8 on", g.forget(8), 0);
        due("forget(-1)", g.forget(-1), BAD);
        due("forget(7)", g.forget(7), 1);
        due("forget(2)", g.forget(2), 5);
        due("a number above theirs", g.forget(3), BAD);
        due("count(4)", g.count(4), 2);
        tells(g, "those ahead stay", g.fits(), 1, 1);
        due("forget(0)", g.forget(0), 2);
        due("count(4)", g.count(4), 0);
        tells(g, "all fit", g.fits(), 3, 7);
        due("numbers from 0 again", g.sight(0, 2, 1), 0);
    }

    private static void fitting() {
        GuineaHours g = in(SMALL);
        of(39);
        due("no HOURS", new GuineaHours().fits(), STATE);
        GuineaHours empty = in("h2");
        tells(empty, "no PEOPLE", empty.fits(), 0, 0);
        tells(g, "fits()", g.fits(), 3, 7);
        g.back(1);
        tells(g, "by BACK", g.fits(), 1, 4);
        g.back(0);
        g.times(1);
        tells(g, "by TIMES 1", g.fits(), 1, 4);
        g.begin(0);
        g.keep(0);
        g.times(2);
        tells(g, "by TIMES 2", g.fits(), 3, 7);
        g.on(0);
        tells(g, "by TIMES of a kept DAY", g.fits(), 1, 4);
        g.times(3);
        g.sight(2, 1, 1);
        tells(g, "it was with 1 at MIDNIGHT", g.fits(), 2, 6);
        g.sight(0, 1, 0);
        tells(g, "not with 1 at first", g.fits(), 1, 4);
        g.sight(0, 2, 0);
        tells(g, "none fits", g.fits(), 0, 0);
        of(40);
        finds(g, "none fits", g.where(0), NOUGHT);
        g.forget(1);
        tells(g, "where(0)", g.where(0), 6, NONE);
        tells(g, "where(1)", g.where(1), 1, 0);
        tells(g, "where(2)", g.where(2), 2, 1);
        due("where(3)", g.where(3), BAD);
        due("where(-1)", g.where(-1), BAD);
        due("no HOURS", new GuineaHours().where(0), STATE);
        due("BAD ahead of STATE", new GuineaHours().where(1), BAD);
        due("no PEOPLE", in("h1").where(0), FINDING);
        of(41);
        tells(g, "ask(0)", g.ask(0), 1, 1);
        tells(g, "whomever one asks", g.ask(1), 0, 2);
        g.forget(0);
        tells(g, "the first of alike ones", g.ask(0), 0, 2);
        tells(g, "ask(1)", g.ask(1), 0, 2);
        tells(g, "ask(2)", g.ask(2), 0, 2);
        g.sight(0, 0, 1);
        g.sight(0, 0, 0);
        finds(g, "none fits", g.ask(0), NOUGHT);
        due("ask(3)", g.ask(3), BAD);
        due("ask(-1)", g.ask(-1), BAD);
        due("no HOURS", new GuineaHours().ask(0), STATE);
        g = in(CROWD);
        g.sight(0, 0, 1);
        g.sight(1, 1, 0);
        tells(g, "18 ROWS", g.fits(), 18, 1);
        tells(g, "of 18 ROWS", g.ask(1), 2, 9);
        tells(g, "of 18 ROWS in HOUR 2", g.ask(2), 0, 12);
    }

    private static void chance() {
        GuineaHours g = in(SMALL);
        of(42);
        fraction(g, "odds(0, 0, 0)", g.odds(0, 0, 0), 1, 1, 2);
        fraction(g, "odds(2, 0, 1)", g.odds(2, 0, 1), 1, 1, 1);
        fraction(g, "odds(2, 0, 2)", g.odds(2, 0, 2), 1, 0, 1);
        fraction(g, "odds at MIDNIGHT", g.odds(1, 2, 1), 1, 1, 1);
        fraction(g, "odds at MIDNIGHT of another one", g.odds(1, 2, 0), 1, 0, 1);
        due("odds(3, 0, 0)", g.odds(3, 0, 0), BAD);
        due("odds(0, 3, 0)", g.odds(0, 3, 0), BAD);
        due("odds(0, 0, -1)", g.odds(0, 0, -1), BAD);
        fraction(g, "they stay", g.odds(0, -1, 0), BAD, 0, 1);
        of(43);
        fraction(g, "lost(0, 0)", g.lost(0, 0), 1, 1, 2);
        fraction(g, "lost(2, 0)", g.lost(2, 0), 1, 0, 1);
        fraction(g, "lost(2, 1)", g.lost(2, 1), 1, 1, 1);
        fraction(g, "lost at MIDNIGHT", g.lost(2, 2), 1, 0, 1);
        due("lost(3, 0)", g.lost(3, 0), BAD);
        due("lost(0, 3)", g.lost(0, 3), BAD);
        due("lost(0, -1)", g.lost(0, -1), BAD);
        g = in("h5 m000000 m000000 m000000 m000000 m000000 m000000 m000000");
        of(42);
        g.times(1);
        g.back(1);
        fraction(g, "of seven, TIMES, BACK aside", g.odds(0, 0, 1), 1, 1111, 7776);
        fraction(g, "of seven, back to the first", g.odds(0, 0, 0), 1, 185, 1296);
    }

    private static void sending() {
        of(44);
        GuineaHours g = in(SMALL);
        fraction(g, "send(0, 0, 0)", g.send(0, 0, 0), 1, 1, 1);
        fraction(g, "the first of alike ones", g.send(0, 0, 2), 1, 0, 1);
        fraction(g, "send(1, 0, 1)", g.send(1, 0, 1), 0, 1, 1);
        g.odds(0, 0, 0);
        fraction(g, "nobody", g.send(2, 1, 0), NONE, 1, 2);
        fraction(g, "at MIDNIGHT", g.send(0, 2, 0), BAD, 1, 2);
        due("send(3, 0, 0)", g.send(3, 0, 0), BAD);
        due("send(0, 0, 3)", g.send(0, 0, 3), BAD);
        due("send(0, -1, 0)", g.send(0, -1, 0), BAD);
        fraction(g, "in the last HOUR", g.send(0, 1, 1), 1, 1, 1);
        g = in("h2 m000 m00- m000");
        fraction(g, "not the first", g.send(0, 0, 0), 2, 1, 1);
        g = in("h2 m00- m000 m001 m0-0 m0-1 m0-1");
        fraction(g, "to the likelier one", g.send(0, 0, 3), 1, 1, 1);
        fraction(g, "to the likelier one, not the first", g.send(0, 0, 5), 2, 1, 2);
    }

    private static void twoGuineas() {
        of(45);
        GuineaHours g = in("h2 m000 m000 m011 m011");
        due("two(0, 2)", g.two(0, 2), 2);
        due("at one place", g.two(0, 1), 0);
        due("alike", g.two(2, 2), BAD);
        due("two(0, 4)", g.two(0, 4), BAD);
        due("two(-1, 0)", g.two(-1, 0), BAD);
        g.times(1);
        g.back(1);
        due("TIMES, BACK aside", g.two(0, 2), 2);
        g = in("h2 m001 m001 m011 m010");
        due("one alone then", g.two(0, 2), 1);
        due("at one place then", g.two(0, 3), 1);
        g = in("h1 m0- m0- m00 m00");
        due("both nowhere", g.two(0, 1), 0);
        due("one nowhere", g.two(0, 2), 0);
        g = in("h2 m000 m001 m002 m013 m013 m0-0 m0-2");
        due("to the one who can go on", g.two(1, 3), 2);
        g = in("h2 m00- m00- m013 m013 m000 m000");
        due("each has to go on", g.two(0, 2), 2);
        due("one of them can't", in("h2 m00- m00- m013 m013").two(0, 2), 1);
        g = in("h3 m0002 m0002 m0113 m0113");
        due("to MIDNIGHT", g.two(3, 0), 3);
        due("no TOWN", new GuineaHours().two(0, 1), BAD);
    }

    private static void byLots() {
        of(46);
        GuineaHours g = in(CROWD);
        due("lots(0, 1)", g.lots(0, 1), 3);
        tells(g, "now()", g.now(), 1, 3);
        due("often(0)", g.often(0), 2);
        due("often(2)", g.often(2), 1);
        due("undo()", g.undo(), 2);
        tells(g, "now()", g.now(), 0, 2);
        due("undo()", g.undo(), 1);
        tells(g, "now()", g.now(), 2, 1);
        due("the greatest seed", g.lots(0, 2147483646), 3);
        g.undo();
        g.undo();
        tells(g, "now()", g.now(), 1, 1);
        due("seed 0", g.lots(1, 0), BAD);
        due("seed 2147483647", g.lots(1, MAX), BAD);
        due("seed below 0", g.lots(1, -5), BAD);
        due("lots(4, 1)", g.lots(4, 1), BAD);
        due("no TOWN", new GuineaHours().lots(0, 1), BAD);
        tells(g, "the DAY stays", g.now(), 1, 1);
        g = in("h2 m000 m00- m000");
        g.times(1);
        due("where none can be", g.lots(1, 7), 2);
        g = in("h3 m00-0 m00-0");
        due("it ends early", g.lots(0, 7), 1);
        tells(g, "now()", g.now(), 1, 1);
        g = in("h5 m000000 m000000");
        g.times(1);
        due("by TIMES", g.lots(1, 7), 1);
        g.times(2);
        due("by TIMES 2", g.lots(1, 7), 3);
        g.back(1);
        due("by BACK", g.lots(1, 7), 1);
    }

    private static void told() {
        of(47);
        GuineaHours g = in(SMALL);
        fill(g, 0, 6);
        g.at(0, 0);
        due("asked()", g.asked(), 6);
        g.at(0, 1);
        g.begin(0);
        g.can();
        g.mark(1, 1);
        g.ways(0, 0);
        g.odds(0, 0, 0);
        g.two(0, 1);
        g.digest();
        g.keeps(0, 0);
        due("asked() stays", g.asked(), 6);
        due("asked() again", g.asked(), 6);
        of(48);
        due("upper()", g.upper(), 1);
        of(49);
        due("lower()", g.lower(), 2);
        g.town(0);
        due("lower() stays", g.lower(), 2);
        of(51);
        due("finding()", g.finding(), BEYOND);
        g.at(1, 0);
        due("finding()", g.finding(), NOTHING);
        g.at(6, 0);
        due("finding() stays", g.finding(), NOTHING);
        of(52);
        g.at(1, 0);
        due("findings(1)", g.findings(NOTHING), 2);
        due("findings(2)", g.findings(BEYOND), 1);
        due("findings(3)", g.findings(UNLIKE), 0);
        due("findings(4)", g.findings(NOUGHT), 0);
        due("findings(5)", g.findings(SIZE), 0);
        due("findings(0)", g.findings(0), BAD);
        due("findings(6)", g.findings(6), BAD);
    }

    private static void counts() {
        of(50);
        GuineaHours g = in(KINDS);
        g.row(0, 0);
        g.row(3, 1);
        g.text(3, 0);
        due("count(2), none", g.count(2), NONE);
        g.begin(0);
        g.give(1);
        g.keep(0);
        g.keep(2);
        g.sight(0, 0, 0);
        int[] counts = {7, 4, 1, 2, 1, 2, 2, 2};
        for (int what = 0; what < 8; what++) {
            due("count(" + what + ")", g.count(what), counts[what]);
        }
        due("count(8)", g.count(8), BAD);
        due("count(-1)", g.count(-1), BAD);
    }

    private static void digests() {
        of(53);
        GuineaHours g = new GuineaHours();
        due("a new object", g.digest(), digestOf(0, 0, NONE, 0, 0, 0, 0, 0, 3, 0,
            -1, -1, -1, -1, -1, -1, -1, -1, -1, -1, -1, -1, -1));
        write(g, 1, "h2 e10- m450");
        g.town(1);
        g.times(2);
        g.back(1);
        g.begin(1);
        g.keep(1);
        g.sight(2, 0, 1);
        g.sight(1, 1, 0);
        fill(g, 4, 70000, -7);
        g.row(5, 0);
        g.text(2, 1);
        g.put(2, 0, 255);
        long want = digestOf(2, 2, 0, 1, 2, 1, 2, 2, 2, 1,
            3, 1, 3, 0, NONE, 0, 4, 2, 5, 0,
            1,
            2, 0, 1, 1, 1, 0,
            -1, 0, -1,
            -1, -1, -1, -1, 2, 70000, -7, 0,
            -1, 12, 104, 50, 32, 101, 49, 48, 45, 32, 109, 52, 53, 48, 1, -1, -1);
        g.person(1, 1);
        due("a town", g.digest(), want);
        due("asked() stays", g.asked(), 4);
        g.at(0, 0);
        due("refused: nothing changes", g.digest(), want);
    }

    /** No call throws, whatever comes, with and without a TOWN. */
    private static void unbrokenByAnything() {
        of(0);
        int[] odd = {MIN, -9, -1, 0, 1, 5, 7, 40, 80, 1 << 30, MAX};
        String[] places = {"", "h1", "h5", "h1 g00", KINDS, CROWD};
        for (String place : places) {
            for (int a : odd) {
                for (int b : odd) {
                    GuineaHours g = in(place);
                    g.row(0, 7);
                    g.begin(0);
                    tryAll(g, a, b);
                }
            }
        }
    }

    private static void tryAll(GuineaHours g, int a, int b) {
        try {
            g.lay(a, b, 1); g.at(a, b); g.copy(a, b, 0, 0, 1); g.copy(0, a, 0, b, 1); g.copy(0, 0, 0, a, b);
            g.mean(a); g.put(a, b, 1); g.fault(a); g.person(a, b); g.place(a, b); g.mark(a, b); g.may(a, b);
            g.begin(a); g.give(b); g.undo(); g.now(); g.often(a); g.can(); g.ends(); g.keep(a); g.on(b);
            g.judge(a); g.ways(a, b); g.way(a, b, 1); g.way(0, a, b); g.bars(a, b); g.least(a, b);
            g.worth(a, b); g.best(a); g.keeps(a, b); g.fewest(a); g.leaves(a, b); g.sight(a, b, 1);
            g.sight(0, a, b); g.forget(a); g.fits(); g.where(a); g.ask(a); g.odds(a, b, 0); g.odds(0, a, b);
            g.lost(a, b); g.send(a, b, 0); g.send(0, a, b); g.two(a, b); g.lots(a, b); g.count(a);
            g.findings(a); g.digest(); g.times(a); g.back(a); g.row(a, b); g.text(a, b); g.tear(a); g.town(a);
            g.digest();
        } catch (RuntimeException e) {
            due("a call with " + a + ", " + b + " threw " + e, 1, 0);
        }
    }
}
