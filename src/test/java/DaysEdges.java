/** Promises 18 to 31: DAYS, ROWS of HANDS; a test for each sentence. */
final class DaysEdges extends Check {
    private static final int[] NO_ONES = {-1, 4, 7, MIN, MAX};
    private static final int[] NO_KEPT = {-1, 3, MIN, MAX};

    private DaysEdges() {
    }

    static void all() {
        begin();
        give();
        undo();
        now();
        often();
        can();
        ends();
        keep();
        on();
        judge();
        judgeRefused();
        ways();
        way();
        bars();
        least();
    }

    private static void begin() {
        of(18, "A DAY begins: it is with one in HOUR 0:");
        GuineaHours g = in(CROWD);
        g.begin(3);
        tells(g, "now()", g.now(), 3, 0);
        g.give(0);
        g.give(1);
        g.give(2);
        g.begin(2);
        tells(g, "anew from MIDNIGHT", g.now(), 2, 0);
        due("nothing given", g.undo(), STATE);
        due("often(3)", g.often(3), 0);
        of(18, "to how many that one MAY give it.");
        due("three", g.begin(0), 3);
        g.times(1);
        g.back(1);
        due("TIMES, BACK don't matter", g.begin(0), 3);
        due("six", in(SEVEN).begin(6), 6);
        due("nobody", in("h1 m0-").begin(0), 0);
        due("in HOUR 0", in("h2 m001 m011 m021").begin(0), 0);
        of(18, "BAD (also without HOURS).");
        for (int x : NO_ONES) {
            due("begin(" + x + ")", g.begin(x), BAD);
        }
        tells(g, "the DAY stays", g.now(), 0, 0);
        due("without HOURS", new GuineaHours().begin(0), BAD);
        due("without PEOPLE", in("h5").begin(0), BAD);
    }

    private static void give() {
        of(19, "It is given to one in this HOUR: the next HOUR.");
        GuineaHours g = in(CROWD);
        g.begin(0);
        due("in HOUR 0", g.give(1), 1);
        due("in HOUR 1", g.give(0), 2);
        due("in the last one", g.give(3), 3);
        tells(g, "now()", g.now(), 3, 3);
        of(19, "BAD;");
        for (int x : NO_ONES) {
            due("give(" + x + ") at MIDNIGHT", g.give(x), BAD);
            due("give(" + x + "), no DAY", in(CROWD).give(x), BAD);
        }
        of(19, "STATE: no DAY is begun,");
        due("no DAY", in(CROWD).give(0), STATE);
        of(19, "it is MIDNIGHT,");
        due("MIDNIGHT", g.give(0), STATE);
        due("MIDNIGHT, to oneself", g.give(3), STATE);
        tells(g, "still", g.now(), 3, 3);
        of(19, "or THE LAW is against it.");
        g.undo();
        due("to oneself", g.give(0), STATE);
        g.back(1);
        due("BACK", g.give(1), STATE);
        g.back(0);
        g.times(1);
        due("too often", g.give(1), STATE);
        due("not too often", g.give(2), 3);
        g = in("h2 m001 m011 p001 m001");
        g.begin(0);
        due("at another place", g.give(1), STATE);
        g.begin(3);
        due("a KIND", g.give(2), STATE);
        due("the DAY stays", g.give(0), 1);
        due("where both are in this HOUR", g.give(1), 2);
        due("STATE is no FINDING", g.finding(), 0);
    }

    private static void undo() {
        of(20, "The last giving is undone: the HOUR.");
        GuineaHours g = in(CROWD);
        g.begin(0);
        g.give(1);
        g.give(2);
        g.give(3);
        due("from MIDNIGHT", g.undo(), 2);
        tells(g, "now()", g.now(), 2, 2);
        due("often(3)", g.often(3), 0);
        due("and again", g.undo(), 1);
        due("and again", g.undo(), 0);
        tells(g, "now()", g.now(), 0, 0);
        of(20, "STATE: none was.");
        due("none left", g.undo(), STATE);
        due("the DAY stays", g.count(2), 0);
        due("no DAY", in(CROWD).undo(), STATE);
        due("without a TOWN", new GuineaHours().undo(), STATE);
        g = in("h1 m00 m01");
        g.lots(0, 1);
        due("LOTS gave none", g.undo(), STATE);
    }

    private static void now() {
        of(21, "Who has it; the HOUR by asked().");
        GuineaHours g = in(SEVEN);
        g.begin(6);
        tells(g, "now()", g.now(), 6, 0);
        for (int h = 0; h < 5; h++) {
            g.give(h);
            tells(g, "now()", g.now(), h, h + 1);
        }
        of(21, "STATE: no DAY is begun.");
        GuineaHours n = in(CROWD);
        n.person(0, 2);
        tells(n, "no DAY", n.now(), STATE, 3);
        due("without a TOWN", new GuineaHours().now(), STATE);
        g.town(0);
        due("a TOWN anew", g.now(), STATE);
    }

    private static void often() {
        of(22, "How often one had it on this DAY.");
        GuineaHours g = in(SEVEN);
        g.begin(5);
        due("who begins", g.often(5), 1);
        for (int h = 0; h < 5; h++) {
            g.give(h % 2 == 0 ? 6 : 5);
        }
        due("often(5)", g.often(5), 3);
        due("often(6)", g.often(6), 3);
        due("often(0)", g.often(0), 0);
        g.begin(0);
        due("on this DAY", g.often(5), 0);
        of(22, "BAD;");
        for (int x : new int[] {-1, 7, MIN, MAX}) {
            due("often(" + x + ")", g.often(x), BAD);
            due("often(" + x + "), no DAY", in(SMALL).often(x), BAD);
        }
        of(22, "STATE.");
        due("no DAY", in(SMALL).often(0), STATE);
    }

    private static void can() {
        of(23, "To whom it can be given in this HOUR by THE LAW (bits;");
        GuineaHours g = in("h2 m000 e001 m000 p00- m010");
        g.times(1);
        g.begin(2);
        due("in HOUR 0", g.can(), 0b1011);
        g.give(0);
        due("in HOUR 1, too often", g.can(), 0b10000);
        g.times(2);
        due("in HOUR 1", g.can(), 0b10100);
        g.back(1);
        due("BACK", g.can(), 0b10000);
        of(23, "at MIDNIGHT 0).");
        g.give(4);
        due("at MIDNIGHT", g.can(), 0);
        of(23, "STATE.");
        due("no DAY", in(CROWD).can(), STATE);
        due("without a TOWN", new GuineaHours().can(), STATE);
    }

    private static void ends() {
        of(24, "By how many rows of givings this DAY can go on to MIDNIGHT;");
        of(24, "who can have it then (bits) by asked().");
        GuineaHours g = in(SEVEN);
        g.begin(3);
        tells(g, "as many as there can be", g.ends(), 7776, 127);
        g.times(1);
        tells(g, "by TIMES 1", g.ends(), 720, 127 - 8);
        for (int x = 4; x < 7; x++) {
            g.give(x);
        }
        tells(g, "from HOUR 3 on", g.ends(), 6, 7);
        g.give(0);
        tells(g, "from the last HOUR on", g.ends(), 2, 6);
        g.give(1);
        tells(g, "at MIDNIGHT: one, of none", g.ends(), 1, 2);
        g = in("h1 m00 m00");
        g.begin(0);
        g.give(1);
        tells(g, "at MIDNIGHT of one HOUR", g.ends(), 1, 2);
        g = in("h2 m00- m001 m0-1 m000");
        g.begin(0);
        tells(g, "not where it can't go on", g.ends(), 1, 4);
        g.give(3);
        tells(g, "none", g.ends(), 0, 0);
        g = in(CROWD);
        g.begin(0);
        g.give(1);
        g.back(1);
        tells(g, "by BACK", g.ends(), 4, 0b1101);
        g.back(0);
        g.give(0);
        g.times(1);
        tells(g, "who had it too often by now", g.ends(), 2, 0b1100);
        of(24, "STATE.");
        due("no DAY", in(CROWD).ends(), STATE);
        due("without a TOWN", new GuineaHours().ends(), STATE);
    }

    private static void keep() {
        of(25, "The DAY (who had it one behind the other, TIMES, BACK) is kept in a place (0 .. 2): its HOUR.");
        GuineaHours g = in(CROWD);
        for (int k = 0; k < 3; k++) {
            g.begin(3);
            g.times(k + 2);
            g.back(k % 2);
            for (int h = 0; h < k; h++) {
                g.give(h);
            }
            due("keep(" + k + ")", g.keep(k), k);
            due("count(5)", g.count(5), k + 1);
        }
        g.begin(0);
        g.times(5);
        for (int k = 0; k < 3; k++) {
            g.on(k);
            due("TIMES", g.times(5), k + 2);
            due("BACK", g.back(0), k % 2);
            tells(g, "HANDS", g.now(), k == 0 ? 3 : k - 1, k);
            due("whom it began with", g.often(3), 1);
        }
        due("over a kept one", g.keep(0), 2);
        due("count(5)", g.count(5), 3);
        g.give(3);
        due("at MIDNIGHT", g.keep(1), 3);
        of(25, "BAD;");
        for (int k : NO_KEPT) {
            due("keep(" + k + ")", g.keep(k), BAD);
            due("keep(" + k + "), no DAY", in(CROWD).keep(k), BAD);
        }
        of(25, "STATE: no DAY is begun.");
        due("no DAY", in(CROWD).keep(0), STATE);
        due("without a TOWN", new GuineaHours().keep(2), STATE);
    }

    private static void on() {
        of(26, "The DAY is as it was kept: its HOUR.");
        GuineaHours g = in(CROWD);
        g.begin(0);
        g.give(1);
        g.give(2);
        g.keep(1);
        g.give(3);
        due("on(1)", g.on(1), 2);
        tells(g, "now()", g.now(), 2, 2);
        g.give(0);
        g.undo();
        g.undo();
        g.undo();
        due("kept apart from the DAY", g.on(1), 2);
        due("the givings, too", g.undo(), 1);
        tells(g, "now()", g.now(), 1, 1);
        due("it stays kept", g.count(5), 1);
        g.begin(3);
        g.times(1);
        g.keep(2);
        g.times(4);
        due("HOUR 0", g.on(2), 0);
        due("no giving", g.undo(), STATE);
        due("TIMES as kept", g.times(3), 1);
        tells(g, "by TIMES 3", g.fits(), 108, 15);
        g.on(2);
        tells(g, "ROWS of HANDS by TIMES as kept", g.fits(), 24, 15);
        of(26, "BAD;");
        for (int k : NO_KEPT) {
            due("on(" + k + ")", g.on(k), BAD);
        }
        of(26, "NOTHING.");
        finds(g, "on(0)", g.on(0), NOTHING);
        tells(g, "the DAY stays", g.now(), 3, 0);
        GuineaHours n = new GuineaHours();
        finds(n, "without a TOWN", n.on(0), NOTHING);
    }

    private static void judge() {
        of(27, "A ROW of HANDS judged: the first HOUR in which a giving is against THE LAW");
        GuineaHours g = in(CROWD);
        fill(g, 5, 0, 0, 0, 0);
        tells(g, "in HOUR 0", g.judge(5), 0, 1);
        fill(g, 5, 0, 1, 1, 1);
        tells(g, "in HOUR 1", g.judge(5), 1, 1);
        fill(g, 5, 0, 1, 2, 2);
        tells(g, "in the last one", g.judge(5), 2, 1);
        of(27, "(as many as HOURS: none is);");
        fill(g, 5, 0, 1, 2, 3);
        tells(g, "none is", g.judge(5), 3, 0);
        g.begin(3);
        tells(g, "the DAY doesn't matter", g.judge(5), 3, 0);
        due("nor is it changed", g.now(), 3);
        of(27, "what is by asked() (0 none, 1 one MAY not, 2 BACK, 3 too often;");
        g.back(1);
        fill(g, 5, 0, 1, 0, 2);
        tells(g, "BACK", g.judge(5), 1, 2);
        fill(g, 5, 0, 1, 2, 0);
        tells(g, "not just ahead of the giver", g.judge(5), 3, 0);
        g.times(1);
        tells(g, "too often", g.judge(5), 2, 3);
        g.back(0);
        fill(g, 5, 0, 1, 0, 2);
        tells(g, "too often", g.judge(5), 1, 3);
        of(27, "the first of these).");
        g.back(1);
        tells(g, "BACK, and too often", g.judge(5), 1, 2);
        fill(g, 5, 0, 0, 1, 2);
        tells(g, "MAY not, and too often", g.judge(5), 0, 1);
        g = in("h2 m000 m001");
        g.back(1);
        g.times(1);
        fill(g, 0, 0, 1, 0);
        tells(g, "MAY not, and BACK, and too often", g.judge(0), 1, 1);
    }

    private static void judgeRefused() {
        GuineaHours g = in(CROWD);
        g.row(5, 4);
        g.judge(5);
        of(27, "BAD;");
        for (int r : new int[] {-1, 6, MIN, MAX}) {
            due("judge(" + r + ")", g.judge(r), BAD);
        }
        of(27, "NOTHING;");
        finds(g, "judge(0)", g.judge(0), NOTHING);
        of(27, "SIZE: not one more than HOURS;");
        for (int size : new int[] {0, 1, 3, 5, 40}) {
            g.row(0, size);
            finds(g, "of " + size, g.judge(0), SIZE);
        }
        fill(g, 0, 9, 9, 9);
        finds(g, "SIZE ahead of UNLIKE", g.judge(0), SIZE);
        of(27, "UNLIKE: none of PEOPLE;");
        for (int x : NO_ONES) {
            fill(g, 0, x, 1, 2, 3);
            finds(g, x + " the first one", g.judge(0), UNLIKE);
            fill(g, 0, 0, 0, 0, x);
            finds(g, x + " the last one, behind what is against THE LAW", g.judge(0), UNLIKE);
        }
        g.person(0, 2);
        g.judge(0);
        due("asked() stays", g.asked(), 3);
        of(27, "STATE: no HOURS.");
        GuineaHours n = new GuineaHours();
        due("missing", n.judge(0), STATE);
        n.row(0, 1);
        due("one more than none", n.judge(0), STATE);
        n.row(0, 2);
        due("of another size", n.judge(0), STATE);
        of(27, "(STATE behind BAD.)");
        due("judge(6)", n.judge(6), BAD);
        due("STATE is no FINDING", n.finding(), 0);
    }

    private static void ways() {
        of(28, "In how many ROWS of HANDS by THE LAW it comes from one to another one");
        GuineaHours g = in(SEVEN);
        due("of seven", g.ways(0, 6), 1111);
        g.times(1);
        due("by TIMES 1", g.ways(0, 6), 120);
        g = in("h5 m000000 m000000 m000000");
        due("of three", g.ways(0, 1), 11);
        g.times(2);
        due("of three, each twice", g.ways(0, 1), 4);
        g.back(1);
        due("of three, round and round", g.ways(0, 1), 1);
        due("none", in("h1 m00 m01").ways(0, 1), 0);
        of(28, "(perhaps the same) by MIDNIGHT.");
        g = in(SEVEN);
        due("of seven", g.ways(6, 6), 1110);
        due("in one HOUR", in("h1 m00 m00").ways(0, 0), 0);
        due("in two HOURS", in("h2 m000 m000").ways(0, 0), 1);
        of(28, "BAD.");
        for (int x : new int[] {-1, 7, MIN, MAX}) {
            due("ways(" + x + ", 0)", g.ways(x, 0), BAD);
            due("ways(0, " + x + ")", g.ways(0, x), BAD);
        }
        due("without a TOWN", new GuineaHours().ways(0, 0), BAD);
    }

    private static void way() {
        of(29, "The first such ROW (by numbers) comes to a ROW (anew): 1;");
        GuineaHours g = in(CROWD);
        due("to a missing ROW", g.way(3, 2, 0), 1);
        rowIs(g, 0, 3, 0, 1, 2);
        g.row(5, 40);
        due("to a greater ROW", g.way(3, 3, 5), 1);
        rowIs(g, 5, 3, 0, 1, 3);
        g.times(1);
        due("by TIMES 1", g.way(0, 1, 5), 1);
        rowIs(g, 5, 0, 2, 3, 1);
        of(29, "NONE: there is none.");
        due("way(0, 0, 5)", g.way(0, 0, 5), NONE);
        rowIs(g, 5, 0, 2, 3, 1);
        due("to a missing ROW", g.way(0, 0, 1), NONE);
        due("count(6)", g.count(6), 2);
        of(29, "BAD.");
        for (int x : NO_ONES) {
            due("way(" + x + ", 0, 0)", g.way(x, 0, 0), BAD);
            due("way(0, " + x + ", 0)", g.way(0, x, 0), BAD);
        }
        for (int r : new int[] {-1, 6, MIN, MAX}) {
            due("way(0, 1, " + r + ")", g.way(0, 1, r), BAD);
            due("way(0, 0, " + r + "), ahead of NONE", g.way(0, 0, r), BAD);
        }
    }

    private static void bars() {
        of(30, "Who bars it: PEOPLE (bits) other than both who are in each such ROW");
        GuineaHours g = in("h2 m00- m000 m0-0 m01-");
        due("one", g.bars(0, 2), 2);
        g = in("h4 m00--- m000-- m0-00- m0--00 m0---0");
        due("three, in one HOUR each", g.bars(0, 4), 0b01110);
        due("none of both", in("h2 m000 m000").bars(0, 0), 2);
        due("nobody", in(CROWD).bars(0, 0), 0);
        g = in(CROWD);
        g.times(1);
        due("all by TIMES 1", g.bars(1, 2), 0b1001);
        of(30, "(without any ROW: all others).");
        due("from one to another one", in("h1 m00 m01 m01").bars(0, 1), 0b100);
        due("to the same", in("h1 m00 m00 m00").bars(1, 1), 0b101);
        due("alone", in("h1 m00").bars(0, 0), 0);
        due("of seven", in("h1 m00 m00 m00 m00 m00 m00 m00").bars(6, 6), 63);
        of(30, "BAD.");
        for (int x : NO_ONES) {
            due("bars(" + x + ", 0)", g.bars(x, 0), BAD);
            due("bars(0, " + x + ")", g.bars(0, x), BAD);
        }
    }

    private static void least() {
        of(31, "The least TIMES (1 .. 5) by which it comes from one to another one.");
        GuineaHours g = in("h5 m000000 m000000");
        g.times(1);
        due("3", g.least(0, 1), 3);
        due("TIMES stay", g.times(5), 1);
        due("3, whatever TIMES are", g.least(1, 0), 3);
        g = in("h3 m0000 m0000");
        due("2", g.least(0, 1), 2);
        due("1", in("h1 m00 m00").least(0, 1), 1);
        due("1 of an ELDER", in("h2 e000 m000").least(0, 0), 1);
        due("2 of a HAND to the same", in("h2 m000 e000").least(0, 0), 2);
        of(31, "NONE: none.");
        due("to the same in one HOUR", in("h1 m00 m00").least(0, 0), NONE);
        g.back(1);
        due("by BACK", g.least(0, 1), NONE);
        of(31, "BAD.");
        for (int x : new int[] {-1, 2, MIN, MAX}) {
            due("least(" + x + ", 0)", g.least(x, 0), BAD);
            due("least(0, " + x + ")", g.least(0, x), BAD);
        }
    }
}
