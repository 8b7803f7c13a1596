/** Promises 47 to 53: what is told; a test for each sentence. */
final class ToldEdges extends Check {
    private ToldEdges() {
    }

    static void all() {
        asked();
        askedStays();
        fractions();
        counts();
        findings();
        digestOfNew();
        digestOfTown();
        digestOfDays();
        digestOfRows();
    }

    private static void asked() {
        of(47, "What the latest lay(), at(), mean(), person(), place(), now(), ends(), judge(), worth(), best(), keeps(), "
            + "fewest(), fits(), where(), ask()");
        GuineaHours g = in(SMALL);
        fill(g, 0, 8, 2, 5);
        tells(g, "lay", g.lay(0, 0, 7), 1, 8);
        tells(g, "at", g.at(0, 0), 1, 7);
        tells(g, "mean", g.mean(0), 1, 4);
        tells(g, "person", g.person(2, 0), 1, 3);
        tells(g, "place", g.place(0, 0), 1, 0);
        g.begin(0);
        g.give(1);
        tells(g, "now", g.now(), 1, 1);
        tells(g, "ends", g.ends(), 1, 1);
        fill(g, 0, 0, 1, 2);
        tells(g, "judge", g.judge(0), 1, 1);
        tells(g, "worth", g.worth(0, 2), 9, NONE);
        tells(g, "best", g.best(1), 0, 8);
        tells(g, "keeps", g.keeps(7, 0), 2, 7);
        tells(g, "fewest", g.fewest(2), 1, 1);
        g.sight(1, 0, 1);
        tells(g, "fits", g.fits(), 2, 6);
        tells(g, "where", g.where(2), 2, 1);
        tells(g, "ask", g.ask(1), 0, 2);
    }

    private static void askedStays() {
        of(47, "that was not refused (nor NONE) told;");
        GuineaHours g = in("h2 m000 m00- m0-0");
        g.row(0, 1);
        g.lay(0, 0, 6);
        g.at(0, 0);
        g.at(0, 1);
        g.at(1, 0);
        g.at(-1, 0);
        g.lay(0, 1, 5);
        g.mean(1);
        g.person(3, 0);
        g.place(0, 2);
        g.now();
        g.ends();
        g.judge(0);
        g.worth(0, 3);
        g.best(3);
        g.keeps(8, 0);
        g.fewest(3);
        g.where(3);
        g.ask(3);
        due("refused", g.asked(), 6);
        due("keeps(0, 0)", g.keeps(0, 0), NONE);
        due("NONE of keeps", g.asked(), 6);
        g.sight(0, 0, 1);
        g.sight(0, 0, 0);
        g.where(0);
        g.ask(0);
        due("NOUGHT", g.asked(), 6);
        GuineaHours apart = in("h1 m00 m01");
        apart.person(0, 2);
        due("fewest(0)", apart.fewest(0), NONE);
        due("NONE of fewest", apart.asked(), 3);
        GuineaHours none = new GuineaHours();
        none.fits();
        none.best(0);
        none.where(0);
        of(47, "0 before.");
        due("before", none.asked(), 0);
        of(47);
        apart.fits();
        due("0 is told, too", apart.asked(), 0);
    }

    private static void fractions() {
        of(48, "The upper number of the fraction that was told last;");
        of(49, "Its lower number;");
        GuineaHours g = in(SMALL);
        fraction(g, "odds", g.odds(1, 0, 1), 1, 1, 2);
        fraction(g, "lost", g.lost(2, 1), 1, 1, 1);
        fraction(g, "send", g.send(0, 1, 0), 1, 0, 1);
        g.odds(1, 0, 1);
        g.town(0);
        fraction(g, "they stay by a TOWN anew", g.count(0), 3, 1, 2);
        of(48, "0 before.");
        due("upper()", new GuineaHours().upper(), 0);
        of(49, "1 before.");
        due("lower()", new GuineaHours().lower(), 1);
    }

    private static void counts() {
        GuineaHours g = in(KINDS);
        of(50, "0 PEOPLE, 1 HOURS,");
        due("count(0)", g.count(0), 7);
        due("count(1)", g.count(1), 4);
        of(50, "2 the HOUR of the DAY (NONE: none is begun),");
        due("none", g.count(2), NONE);
        g.begin(0);
        due("0", g.count(2), 0);
        g.give(1);
        due("1", g.count(2), 1);
        of(50, "3 ELDERS (GREAT ones, too),");
        due("two", g.count(3), 2);
        due("none", in("h1 m00 p00 s00 g00").count(3), 0);
        of(50, "4 SIGHTS,");
        due("none", g.count(4), 0);
        for (int n = 1; n <= 8; n++) {
            g.sight(0, 0, 0);
            due("SIGHTS", g.count(4), n);
        }
        g.sight(0, 0, 0);
        due("a ninth one", g.count(4), 8);
        of(50, "5 kept DAYS,");
        due("none", g.count(5), 0);
        g.keep(2);
        g.keep(2);
        due("one, kept again", g.count(5), 1);
        g.keep(0);
        g.keep(1);
        due("three", g.count(5), 3);
        of(50, "6 ROWS,");
        g.row(5, 0);
        due("an empty one", g.count(6), 1);
        g.row(5, 3);
        due("the same", g.count(6), 1);
        of(50, "7 TEXTS that are there.");
        due("one", g.count(7), 1);
        g.text(3, 0);
        due("an empty one", g.count(7), 2);
        of(50, "BAD.");
        for (int what : new int[] {-1, 8, MIN, MAX}) {
            due("count(" + what + ")", g.count(what), BAD);
        }
    }

    private static void findings() {
        of(51, "The latest FINDING");
        GuineaHours g = new GuineaHours();
        of(51, "(0 before any).");
        due("before", g.finding(), 0);
        of(51);
        g.tear(0);
        g.row(0, -1);
        due("SIZE", g.finding(), SIZE);
        g.tear(0);
        due("NOTHING", g.finding(), NOTHING);
        g.row(0, 0);
        g.row(9, 0);
        g.judge(0);
        due("it stays", g.finding(), NOTHING);
        of(52, "How often a FINDING (1 .. 5) was answered.");
        due("NOTHING", g.findings(1), 2);
        due("SIZE", g.findings(5), 1);
        for (int f = 2; f <= 4; f++) {
            due("findings(" + f + ")", g.findings(f), 0);
        }
        for (int n = 0; n < 400; n++) {
            g.mean(0);
        }
        due("NOUGHT", g.findings(4), 400);
        of(52, "BAD.");
        for (int f : new int[] {0, 6, -1, MIN, MAX}) {
            due("findings(" + f + ")", g.findings(f), BAD);
        }
        due("it is no FINDING", g.finding(), NOUGHT);
    }

    private static void digestOfNew() {
        of(53, "h = 17; then h = 31 h + v for each v");
        of(53, "count() 0 to 7;");
        of(53, "TIMES, BACK;");
        GuineaHours g = new GuineaHours();
        due("a new object", g.digest(), digestOf(0, 0, NONE, 0, 0, 0, 0, 0, 3, 0,
            -1, -1, -1, -1, -1, -1, -1, -1, -1, -1, -1, -1, -1));
        g.times(5);
        g.back(1);
        due("TIMES 5, BACK 1", g.digest(), digestOf(0, 0, NONE, 0, 0, 0, 0, 0, 5, 1,
            -1, -1, -1, -1, -1, -1, -1, -1, -1, -1, -1, -1, -1));
    }

    private static void digestOfTown() {
        of(53, "(of a call that tells by asked(): what it tells, not the 1 that it answers; asked() stays):");
        GuineaHours g = in("h2 e10- t945 g000");
        g.times(2);
        g.person(1, 1);
        due("a TOWN", g.digest(), digestOf(3, 2, NONE, 2, 0, 0, 0, 1, 2, 0,
            3, 1, 3, 0, NONE, 5, 9, 4, 4, 5, 4, 0, 2, 0, 0,
            -1, -1, -1, -1, -1, -1, -1, -1, -1,
            17, 'h', '2', ' ', 'e', '1', '0', '-', ' ', 't', '9', '4', '5', ' ', 'g', '0', '0', '0', -1, -1, -1));
        due("asked() stays", g.asked(), 9);
        of(53, "of each one person() 0 to 2, where that one is in each HOUR;");
        g = in("h1 p35");
        g.town(0);
        g.text(0, 0);
        due("one", g.digest(), digestOf(1, 1, NONE, 0, 0, 0, 0, 1, 3, 0, 1, 3, 3, 5,
            -1, -1, -1, -1, -1, -1, -1, -1, -1, 0, -1, -1, -1));
    }

    private static void digestOfDays() {
        of(53, "of the DAY who had it, one behind the other;");
        GuineaHours g = in("h2 m000 m000");
        g.text(0, 0);
        g.begin(1);
        due("HOUR 0", g.digest(), digestOf(2, 2, 0, 0, 0, 0, 0, 1, 3, 0, 0, 0, 3, 0, 0, 0, 0, 3, 0, 0, 1,
            -1, -1, -1, -1, -1, -1, -1, -1, -1, 0, -1, -1, -1));
        g.give(0);
        g.give(1);
        due("MIDNIGHT", g.digest(), digestOf(2, 2, 2, 0, 0, 0, 0, 1, 3, 0, 0, 0, 3, 0, 0, 0, 0, 3, 0, 0, 1, 0, 1,
            -1, -1, -1, -1, -1, -1, -1, -1, -1, 0, -1, -1, -1));
        g.undo();
        of(53, "of each SIGHT HOUR, whom, 0 or 1;");
        g.sight(2, 0, 1);
        g.sight(1, 1, 0);
        of(53, "of each kept DAY its HOUR (-1: missing);");
        g.keep(2);
        g.undo();
        g.keep(0);
        due("all of it", g.digest(), digestOf(2, 2, 0, 0, 2, 2, 0, 1, 3, 0, 0, 0, 3, 0, 0, 0, 0, 3, 0, 0, 1,
            2, 0, 1, 1, 1, 0, 0, -1, 1, -1, -1, -1, -1, -1, -1, 0, -1, -1, -1));
    }

    private static void digestOfRows() {
        of(53, "of each ROW its size (-1: missing) and places,");
        GuineaHours g = new GuineaHours();
        fill(g, 0, MAX, MIN, -1);
        g.row(5, 0);
        due("ROWS", g.digest(), digestOf(0, 0, NONE, 0, 0, 0, 2, 0, 3, 0, -1, -1, -1,
            3, MAX, MIN, -1, -1, -1, -1, -1, 0, -1, -1, -1, -1));
        of(53, "of each TEXT likewise.");
        g.tear(0);
        g.tear(5);
        g.text(0, 1);
        g.text(3, 2);
        g.put(3, 0, 128);
        g.put(3, 1, 127);
        due("TEXTS", g.digest(), digestOf(0, 0, NONE, 0, 0, 0, 0, 2, 3, 0, -1, -1, -1,
            -1, -1, -1, -1, -1, -1, 1, 32, -1, -1, 2, -128, 127));
    }
}
