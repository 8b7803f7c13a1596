/** Promises 32 to 41: WORTH, sets, SIGHTS; a test for each sentence. */
final class SetsEdges extends Check {
    /** In a TOWN of two HOURS and three PEOPLE. */
    private static final int[] NO_MOMENTS = {-1, 3, MIN, MAX};
    private static final int[] NO_ONES = {-1, 3, MIN, MAX};

    private SetsEdges() {
    }

    static void all() {
        worth();
        best();
        keeps();
        fewest();
        leaves();
        leavesRefused();
        sight();
        forget();
        fits();
        where();
        ask();
    }

    private static void worth() {
        of(32, "WORTH of it to one in an HOUR (or at MIDNIGHT);");
        GuineaHours g = in("h5 m100000 m000000");
        int[] first = {7, 7, 8, 8, 9, 9};
        int[] second = {6, 7, 7, 8, 8, 9};
        for (int h = 0; h <= 5; h++) {
            due("worth(0, " + h + ")", g.worth(0, h), first[h]);
            due("worth(1, " + h + ")", g.worth(1, h), second[h]);
        }
        of(32, "to whom to give it then by asked()");
        g = in("h1 m00 m30 m20 m50");
        tells(g, "to the least FEE", g.worth(0, 0), 7, 2);
        tells(g, "to another one", g.worth(2, 0), 9, 0);
        of(32, "(the first;");
        g = in("h1 m90 m30 m20 m20");
        tells(g, "worth(0, 0)", g.worth(0, 0), 7, 2);
        tells(g, "worth(3, 0)", g.worth(3, 0), 7, 2);
        of(32, "NONE: nobody, or MIDNIGHT).");
        g = in(SMALL);
        tells(g, "nobody", g.worth(2, 1), 0, NONE);
        g.worth(0, 0);
        tells(g, "MIDNIGHT", g.worth(0, 2), 9, NONE);
        GuineaHours seven = in(SEVEN);
        tells(seven, "the first of seven, MIDNIGHT", seven.worth(0, 5), 9, NONE);
        tells(seven, "the last of seven, MIDNIGHT", seven.worth(6, 5), 9, NONE);
        tells(seven, "the last of seven", seven.worth(6, 0), 9, 0);
        of(32, "BAD.");
        g.worth(0, 0);
        for (int h : NO_MOMENTS) {
            tells(g, "worth(0, " + h + ")", g.worth(0, h), BAD, 1);
        }
        for (int x : NO_ONES) {
            tells(g, "worth(" + x + ", 0)", g.worth(x, 0), BAD, 1);
        }
        due("without a TOWN", new GuineaHours().worth(0, 0), BAD);
    }

    private static void best() {
        of(33, "To whom it is WORTH most in an HOUR (or at MIDNIGHT;");
        GuineaHours g = in("h2 m900 m500 m10-");
        tells(g, "0 to all, 0 at least", g.best(0), 0, 0);
        tells(g, "in the last HOUR", g.best(1), 0, 4);
        g = in("h1 m01 m10 m20 m30");
        tells(g, "not the first one", g.best(0), 2, 8);
        g = in("h1 m01 m20 m10 m40");
        tells(g, "the second one", g.best(0), 1, 8);
        g = in("h1 m01 m02 m00 m50");
        tells(g, "the last one", g.best(0), 3, 9);
        of(33, "the first);");
        tells(g, "MIDNIGHT", g.best(1), 0, 9);
        GuineaHours apart = in("h1 m00 m01 m02");
        tells(apart, "0 to all", apart.best(0), 0, 0);
        of(33, "that by asked().");
        g = in("h1 m01 m01");
        tells(g, "9", g.best(0), 0, 9);
        of(33, "BAD;");
        g = in(SMALL);
        for (int h : NO_MOMENTS) {
            due("best(" + h + ")", g.best(h), BAD);
        }
        due("HOUR 1 without HOURS", new GuineaHours().best(1), BAD);
        of(33, "STATE: no PEOPLE.");
        due("HOUR 0", in("h2").best(0), STATE);
        due("MIDNIGHT", in("h2").best(2), STATE);
        due("without a TOWN", new GuineaHours().best(0), STATE);
    }

    private static void keeps() {
        of(34, "For how many HOURS a set KEEPS it from an HOUR (or MIDNIGHT) on at most");
        GuineaHours g = in(SMALL);
        tells(g, "one HOUR", g.keeps(5, 0), 1, 5);
        tells(g, "none", g.keeps(5, 1), 0, 5);
        tells(g, "one alone", g.keeps(1, 0), 0, 1);
        tells(g, "at MIDNIGHT", g.keeps(4, 2), 0, 4);
        of(34, "(to MIDNIGHT: all that are left);");
        tells(g, "two", g.keeps(3, 0), 2, 3);
        tells(g, "one", g.keeps(3, 1), 1, 3);
        tells(g, "none", g.keeps(3, 2), 0, 3);
        GuineaHours seven = in(SEVEN);
        for (int h = 0; h <= 5; h++) {
            tells(seven, "two of seven", seven.keeps(96, h), 5 - h, 96);
            tells(seven, "all seven", seven.keeps(127, h), 5 - h, 127);
        }
        of(34, "who has to have it then (bits) by asked().");
        tells(g, "one of two", g.keeps(6, 0), 1, 2);
        tells(g, "two of three", g.keeps(7, 1), 1, 3);
        tells(g, "all three", g.keeps(7, 0), 2, 7);
        of(34, "NONE: an empty set.");
        tells(g, "keeps(0, 0)", g.keeps(0, 0), NONE, 7);
        tells(g, "at MIDNIGHT", g.keeps(0, 2), NONE, 7);
        due("without PEOPLE", in("h5").keeps(0, 5), NONE);
        of(34, "BAD.");
        for (int h : NO_MOMENTS) {
            due("keeps(3, " + h + ")", g.keeps(3, h), BAD);
            due("keeps(0, " + h + "), ahead of NONE", g.keeps(0, h), BAD);
        }
        for (int set : new int[] {-1, 8, 9, 128, MIN, MAX}) {
            due("keeps(" + set + ", 0)", g.keeps(set, 0), BAD);
        }
        due("128 of seven", seven.keeps(128, 0), BAD);
        due("1 without PEOPLE", in("h5").keeps(1, 0), BAD);
    }

    private static void fewest() {
        of(35, "The sets that KEEP it from an HOUR (or MIDNIGHT) on to MIDNIGHT and have fewest PEOPLE: how many PEOPLE;");
        GuineaHours g = in("h2 m00- m001 m0-1 m022 m02-");
        tells(g, "three", g.fewest(0), 3, 7);
        tells(g, "two in the last HOUR", g.fewest(1), 2, 6);
        tells(g, "one at MIDNIGHT", g.fewest(2), 1, 1);
        g = in("h2 m00- m001 m0-1 m022 m022");
        tells(g, "two, though greater bits", g.fewest(0), 2, 24);
        g = in("h5 m00---- m000--- m0-00-- m0--00- m0---00 m0----0");
        tells(g, "six", g.fewest(0), 6, 63);
        g = in("h2 m000 m00- m0-0");
        tells(g, "from the second one on", g.fewest(0), 3, 7);
        of(35, "the least such set (bits) by asked().");
        g = in(SEVEN);
        tells(g, "the first two", g.fewest(0), 2, 3);
        g = in("h1 m01 m00 m02 m00 m00");
        tells(g, "not the first two", g.fewest(0), 2, 10);
        of(35, "NONE: none does.");
        g = in("h2 m00- m00- m0-0");
        tells(g, "MIDNIGHT", g.fewest(2), 1, 1);
        tells(g, "none from HOUR 0 on", g.fewest(0), NONE, 1);
        tells(g, "none from the last HOUR on", g.fewest(1), NONE, 1);
        due("without PEOPLE", in("h1").fewest(1), NONE);
        due("without a TOWN", new GuineaHours().fewest(0), NONE);
        of(35, "BAD.");
        for (int h : NO_MOMENTS) {
            due("fewest(" + h + ")", g.fewest(h), BAD);
        }
        due("HOUR 1 without a TOWN", new GuineaHours().fewest(1), BAD);
    }

    private static void leaves() {
        of(36, "Shares in a ROW (0 .. 9 for each of PEOPLE, 9 together):");
        GuineaHours g = in(SMALL);
        fill(g, 5, 9, 0, 0);
        due("all to one who is needed", g.leaves(5, 0), 0);
        fill(g, 5, 0, 9, 0);
        due("all to the other one", g.leaves(5, 0), 0);
        fill(g, 5, 3, 3, 3);
        due("to each", g.leaves(5, 0), 3);
        of(36, "0: each set that KEEPS it from an HOUR (or MIDNIGHT) on to MIDNIGHT has 9 together;");
        fill(g, 5, 4, 5, 0);
        due("from HOUR 0 on", g.leaves(5, 0), 0);
        due("from HOUR 1 on", g.leaves(5, 1), 0);
        GuineaHours apart = in("h1 m00 m01");
        fill(apart, 0, 1, 8);
        due("none KEEPS it", apart.leaves(0, 0), 0);
        GuineaHours alone = in("h1 m00");
        fill(alone, 0, 9);
        due("one alone at MIDNIGHT", alone.leaves(0, 1), 0);
        of(36, "else the first set (by bits) that KEEPS it so and has less.");
        due("MIDNIGHT: one alone", g.leaves(5, 2), 1);
        fill(g, 5, 9, 0, 0);
        due("MIDNIGHT: the next one", g.leaves(5, 2), 2);
        fill(g, 5, 8, 0, 1);
        due("8", g.leaves(5, 0), 3);
        g = in(CROWD);
        fill(g, 0, 9, 0, 0, 0);
        due("without the first one", g.leaves(0, 0), 6);
        fill(g, 0, 5, 4, 0, 0);
        due("with the first one", g.leaves(0, 0), 5);
        fill(g, 0, 0, 0, 0, 9);
        due("of two at least", g.leaves(0, 0), 3);
        g.begin(0);
        g.times(1);
        due("TIMES don't matter", g.leaves(0, 0), 3);
    }

    private static void leavesRefused() {
        GuineaHours g = in(SMALL);
        of(36, "BAD;");
        fill(g, 0, 9, 0, 0);
        for (int h : NO_MOMENTS) {
            due("leaves(0, " + h + ")", g.leaves(0, h), BAD);
        }
        for (int r : new int[] {-1, 6, MIN, MAX}) {
            due("leaves(" + r + ", 0)", g.leaves(r, 0), BAD);
        }
        of(36, "STATE: no PEOPLE;");
        GuineaHours n = in("h2");
        n.row(0, 0);
        due("no PEOPLE", n.leaves(0, 0), STATE);
        due("no PEOPLE, MIDNIGHT", n.leaves(0, 2), STATE);
        due("no TOWN", new GuineaHours().leaves(0, 0), STATE);
        of(36, "NOTHING;");
        finds(g, "leaves(1, 0)", g.leaves(1, 0), NOTHING);
        of(36, "SIZE;");
        for (int size : new int[] {0, 1, 2, 4, 40}) {
            g.row(1, size);
            finds(g, "of " + size, g.leaves(1, 0), SIZE);
        }
        of(36, "UNLIKE: a number, or not 9 together.");
        int[][] unlike = {{10, -1, 0}, {-1, 5, 5}, {0, 10, -1}, {0, -1, 10}, {MAX, MAX, 11}, {MIN, MIN, 9}, {0, 0, 0},
            {5, 3, 0}, {5, 5, 0}, {9, 0, 9}, {10, 0, 0}, {0, 0, -9}};
        for (int[] shares : unlike) {
            fill(g, 2, shares);
            finds(g, "UNLIKE from " + shares[0] + " on", g.leaves(2, 0), UNLIKE);
        }
        of(36, "(In this order.)");
        due("BAD ahead of STATE", n.leaves(0, 3), BAD);
        due("STATE ahead of NOTHING", n.leaves(1, 0), STATE);
        n.row(0, 40);
        due("STATE ahead of SIZE", n.leaves(0, 0), STATE);
        due("no FINDING", n.finding(), 0);
        fill(g, 2, 10, 10, 10, 10);
        finds(g, "SIZE ahead of UNLIKE", g.leaves(2, 0), SIZE);
        due("findings(4)", g.findings(NOUGHT), 0);
    }

    private static void sight() {
        of(37, "A SIGHT: its number.");
        GuineaHours g = in(SMALL);
        due("the first", g.sight(0, 0, 1), 0);
        due("at MIDNIGHT", g.sight(2, 2, 0), 1);
        due("once more", g.sight(2, 2, 0), 2);
        due("what can't be, too", g.sight(0, 0, 0), 3);
        of(37, "BAD;");
        for (int h : NO_MOMENTS) {
            due("sight(" + h + ", 0, 1)", g.sight(h, 0, 1), BAD);
        }
        for (int x : NO_ONES) {
            due("sight(0, " + x + ", 1)", g.sight(0, x, 1), BAD);
        }
        for (int is : new int[] {-1, 2, MIN, MAX}) {
            due("sight(0, 0, " + is + ")", g.sight(0, 0, is), BAD);
        }
        due("without a TOWN", new GuineaHours().sight(0, 0, 0), BAD);
        due("without PEOPLE", in("h5").sight(0, 0, 0), BAD);
        due("count(4)", g.count(4), 4);
        of(37, "FULL.");
        for (int n = 4; n < 8; n++) {
            due("sight", g.sight(1, 1, 1), n);
        }
        due("a ninth one", g.sight(1, 1, 1), FULL);
        due("a tenth one", g.sight(1, 1, 1), FULL);
        due("BAD ahead of FULL", g.sight(1, 1, 2), BAD);
        due("FULL is no FINDING", g.finding(), 0);
        g.forget(7);
        due("room again", g.sight(1, 1, 1), 7);
        due("FULL again", g.sight(1, 1, 1), FULL);
    }

    private static void forget() {
        of(38, "SIGHTS from number n on are forgotten: how many.");
        GuineaHours g = in(CROWD);
        for (int n = 0; n < 8; n++) {
            g.sight(n % 4, n / 4, 0);
        }
        due("none behind the last", g.forget(8), 0);
        due("the last", g.forget(7), 1);
        due("count(4)", g.count(4), 7);
        due("from 4 on", g.forget(4), 3);
        tells(g, "those ahead stay", g.fits(), 24, 0b1110);
        due("from 1 on", g.forget(1), 3);
        tells(g, "the first stays", g.fits(), 81, 0b1110);
        due("all", g.forget(0), 1);
        tells(g, "all fit", g.fits(), 108, 15);
        due("none is left", g.forget(0), 0);
        due("numbers from 0 again", g.sight(0, 0, 1), 0);
        of(38, "BAD.");
        for (int n : new int[] {-1, 2, 8, 9, MIN, MAX}) {
            due("forget(" + n + ")", g.forget(n), BAD);
        }
        due("count(4)", g.count(4), 1);
        due("without a TOWN", new GuineaHours().forget(-1), BAD);
    }

    private static void fits() {
        of(39, "How many ROWS of HANDS by THE LAW fit all SIGHTS;");
        GuineaHours g = in(SEVEN);
        tells(g, "as many as there can be", g.fits(), 54432, 127);
        g.times(1);
        tells(g, "by TIMES 1", g.fits(), 5040, 127);
        g.times(3);
        g.back(1);
        tells(g, "by BACK", g.fits(), 26250, 127);
        for (int h = 0; h < 6; h++) {
            g.sight(h, h, 1);
        }
        tells(g, "one", g.fits(), 1, 1);
        g.sight(5, 0, 0);
        tells(g, "still one", g.fits(), 1, 1);
        g.sight(5, 5, 0);
        tells(g, "none", g.fits(), 0, 0);
        g.forget(0);
        g.begin(6);
        tells(g, "the DAY doesn't matter", g.fits(), 26250, 127);
        of(39, "who can have begun with it (bits) by asked().");
        GuineaHours other = in("h1 m00 m01 p00 m00");
        tells(other, "who can give it", other.fits(), 5, 0b1101);
        other.sight(1, 2, 1);
        tells(other, "to a PROUD one", other.fits(), 1, 1);
        other.sight(0, 0, 0);
        tells(other, "nobody", other.fits(), 0, 0);
        of(39, "STATE: no HOURS.");
        due("without a TOWN", new GuineaHours().fits(), STATE);
        GuineaHours empty = in("h1");
        tells(empty, "without PEOPLE", empty.fits(), 0, 0);
    }

    private static void where() {
        of(40, "Who can have had it in an HOUR (or at MIDNIGHT; bits), by all that fit;");
        GuineaHours g = in(SMALL);
        due("where(0)", g.where(0), 7);
        due("where(1)", g.where(1), 3);
        due("at MIDNIGHT", g.where(2), 3);
        g.sight(2, 1, 1);
        due("where(0), seen at MIDNIGHT", g.where(0), 6);
        of(40, "who surely had it (NONE) by asked().");
        tells(g, "where(1)", g.where(1), 1, 0);
        tells(g, "where(2)", g.where(2), 2, 1);
        tells(g, "where(0)", g.where(0), 6, NONE);
        g.sight(0, 1, 0);
        tells(g, "where(0)", g.where(0), 4, 2);
        GuineaHours seven = in(SEVEN);
        seven.sight(5, 6, 1);
        tells(seven, "the last of seven", seven.where(5), 64, 6);
        of(40, "BAD;");
        for (int h : NO_MOMENTS) {
            due("where(" + h + ")", g.where(h), BAD);
        }
        due("HOUR 1 without HOURS", new GuineaHours().where(1), BAD);
        of(40, "STATE;");
        due("without HOURS", new GuineaHours().where(0), STATE);
        of(40, "NOUGHT: none fits.");
        g.sight(0, 2, 0);
        finds(g, "where(0)", g.where(0), NOUGHT);
        finds(g, "where(2)", g.where(2), NOUGHT);
        due("asked() stays", g.asked(), 2);
        due("BAD ahead of NOUGHT", g.where(3), BAD);
        GuineaHours empty = in("h1");
        finds(empty, "without PEOPLE", empty.where(0), NOUGHT);
        GuineaHours apart = in("h1 m00 m01");
        finds(apart, "nobody can give it", apart.where(1), NOUGHT);
    }

    private static void ask() {
        of(41, "Whom to ask whether that one had it in an HOUR (or at MIDNIGHT), so that, whatever the answer, "
            + "fewest ROWS that fit are left at most (the first);");
        GuineaHours g = in(SMALL);
        tells(g, "1 or 2 of 3", g.ask(0), 0, 2);
        tells(g, "2 or 1 of 3, as whom else", g.ask(1), 0, 2);
        tells(g, "at MIDNIGHT", g.ask(2), 0, 2);
        g.sight(0, 0, 0);
        tells(g, "1 or 1 of 2: not the first", g.ask(0), 1, 1);
        tells(g, "0 or 2 of 2, as 2 or 0", g.ask(1), 0, 2);
        of(41, "how many at most by asked().");
        g = in(SEVEN);
        tells(g, "of 54432 all but a seventh", g.ask(5), 0, 46656);
        g.sight(0, 6, 1);
        tells(g, "one is known", g.ask(0), 0, 7776);
        tells(g, "not to oneself", g.ask(1), 0, 6480);
        of(41, "BAD;");
        for (int h : new int[] {-1, 6, MIN, MAX}) {
            due("ask(" + h + ")", g.ask(h), BAD);
        }
        due("HOUR 1 without HOURS", new GuineaHours().ask(1), BAD);
        of(41, "STATE;");
        due("without HOURS", new GuineaHours().ask(0), STATE);
        of(41, "NOUGHT.");
        g.sight(0, 6, 0);
        finds(g, "none fits", g.ask(5), NOUGHT);
        due("asked() stays", g.asked(), 6480);
        due("BAD ahead of NOUGHT", g.ask(6), BAD);
        GuineaHours empty = in("h1");
        finds(empty, "without PEOPLE", empty.ask(1), NOUGHT);
    }
}
