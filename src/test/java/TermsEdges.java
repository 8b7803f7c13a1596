/** The Terms: ANSWERS, and sections 1 to 3; a test for each sentence. */
final class TermsEdges extends Check {
    private TermsEdges() {
    }

    static void all() {
        order();
        answers();
        findings();
        fractions();
        sizes();
        blanks();
        heads();
        items();
        faults();
        kinds();
        goosesAndGreatOnes();
        mayGive();
        theLaw();
        backAndRows();
        worth();
        keeping();
        byChance();
        sights();
        lots();
    }

    private static void order() {
        of(0, "ANSWERS. Refused is, the first of these that fits, in this order:");
        GuineaHours g = in(SMALL);
        due("give, BAD ahead of STATE", g.give(3), BAD);
        due("often, BAD ahead of STATE", g.often(3), BAD);
        due("keep, BAD ahead of STATE", g.keep(3), BAD);
        due("on, BAD ahead of NOTHING", g.on(3), BAD);
        due("mark, BAD ahead of UNLIKE", g.mark(0, 6), BAD);
        due("leaves, BAD ahead of NOTHING", g.leaves(0, 3), BAD);
        for (int n = 0; n < 8; n++) {
            g.sight(n % 2, 0, 1);
        }
        due("sight, HOUR BAD ahead of FULL", g.sight(3, 0, 1), BAD);
        due("sight, whom BAD ahead of FULL", g.sight(0, 3, 1), BAD);
        due("sight, 2 BAD ahead of FULL", g.sight(0, 0, 2), BAD);
        due("where, BAD ahead of NOUGHT", g.where(3), BAD);
        due("ask, BAD ahead of NOUGHT", g.ask(-1), BAD);
        due("none of it a FINDING", g.finding(), 0);
        g = new GuineaHours();
        due("where, BAD ahead of STATE", g.where(1), BAD);
        due("ask, BAD ahead of STATE", g.ask(1), BAD);
        due("best, BAD ahead of STATE", g.best(1), BAD);
        due("leaves, BAD ahead of STATE", g.leaves(0, 1), BAD);
        due("judge, BAD ahead of STATE", g.judge(6), BAD);
        due("where, STATE ahead of NOUGHT", g.where(0), STATE);
        due("ask, STATE ahead of NOUGHT", g.ask(0), STATE);
        due("judge, STATE ahead of NOTHING", g.judge(0), STATE);
        due("leaves, STATE ahead of NOTHING", g.leaves(0, 0), STATE);
        due("none of it a FINDING", g.finding(), 0);
    }

    private static void answers() {
        of(0, "BAD -1 (a number that is none, or not as told),");
        due("BAD", GuineaHours.BAD, -1);
        due("row(-1, 0)", new GuineaHours().row(-1, 0), -1);
        of(0, "FULL -2,");
        due("FULL", GuineaHours.FULL, -2);
        GuineaHours g = in(SMALL);
        for (int n = 0; n < 8; n++) {
            g.sight(0, 0, 1);
        }
        due("a ninth SIGHT", g.sight(0, 0, 1), -2);
        of(0, "STATE -4 (not now),");
        due("STATE", GuineaHours.STATE, -4);
        due("now()", g.now(), -4);
        of(0, "SPENT -6 (more than told),");
        due("SPENT", GuineaHours.SPENT, -6);
        of(0, "FINDING -3 (finding() tells which), unless a call says so otherwise.");
        due("FINDING", GuineaHours.FINDING, -3);
        due("tear(0)", g.tear(0), -3);
        due("finding()", g.finding(), 1);
        of(0, "NONE -9 (as an answer: a ROW that would come anew stays).");
        due("NONE", GuineaHours.NONE, -9);
        fill(g, 0, 4, 5, 6, 7);
        due("way(0, 1, 0)", g.way(0, 1, 0), -9);
        rowIs(g, 0, 4, 5, 6, 7);
        due("way(0, 1, 1), missing", g.way(0, 1, 1), -9);
        due("count(6)", g.count(6), 1);
    }

    private static void findings() {
        GuineaHours g = in(SMALL);
        of(0, "FINDINGS: 1 NOTHING (a ROW, a TEXT, a kept DAY that is missing),");
        finds(g, "a ROW", g.at(0, 0), 1);
        finds(g, "a TEXT", g.put(1, 0, 0), 1);
        finds(g, "a kept DAY", g.on(0), 1);
        of(0, "2 BEYOND (a place that there is not),");
        finds(g, "a place of a TEXT", g.put(0, 17, 0), 2);
        g.row(0, 2);
        finds(g, "a place of a ROW", g.lay(0, 2, 0), 2);
        of(0, "3 UNLIKE (one of another KIND; a number that is none),");
        finds(g, "another KIND", g.mark(0, 1), 3);
        g.row(0, 3);
        finds(g, "not 9 together", g.leaves(0, 0), 3);
        g.lay(0, 1, 3);
        finds(g, "a hand that is none", g.judge(0), 3);
        of(0, "4 NOUGHT (shared among none; what can't be),");
        g.row(1, 0);
        finds(g, "shared among none", g.mean(1), 4);
        g.sight(0, 0, 1);
        g.sight(0, 0, 0);
        finds(g, "what can't be", g.where(0), 4);
        of(0, "5 SIZE (fewer than none; not as many as due).");
        finds(g, "a ROW of fewer than none", g.row(1, -1), 5);
        finds(g, "a TEXT of fewer than none", g.text(1, -1), 5);
        finds(g, "fewer than none to copy", g.copy(1, 0, 1, 0, -1), 5);
        finds(g, "HANDS not as many as due", g.judge(1), 5);
        finds(g, "shares not as many as due", g.leaves(1, 0), 5);
        int[] often = {3, 2, 3, 2, 5};
        for (int f = 1; f <= 5; f++) {
            due("findings(" + f + ")", g.findings(f), often[f - 1]);
        }
    }

    private static void fractions() {
        of(0, "Fractions are told by upper(), lower(), in lowest terms, the lower number above 0 (0 by 1).");
        GuineaHours g = in("h2 m000 m000 m000 m000 m000");
        fraction(g, "4 by 16", g.odds(0, 0, 0), 1, 1, 4);
        fraction(g, "3 by 16", g.odds(0, 0, 1), 1, 3, 16);
        fraction(g, "0 by 4", g.odds(0, 1, 0), 1, 0, 1);
        fraction(g, "4 by 4", g.odds(0, 2, 0), 1, 1, 1);
        fraction(g, "0 by 1", g.lost(0, 2), 1, 0, 1);
        of(0, "Sets (of PEOPLE) are told by bits.");
        due("may(0, 0)", g.may(0, 0), 2 + 4 + 8 + 16);
        due("may(4, 0)", g.may(4, 0), 1 + 2 + 4 + 8);
    }

    private static void sizes() {
        GuineaHours g = new GuineaHours();
        of(0, "1 ROWS 0 .. 5 are rows of 0 to 40 ints,");
        for (int r = 0; r < 6; r++) {
            due("row(" + r + ", 40)", g.row(r, 40), 40);
            tells(g, "lay(" + r + ", 39, MAX)", g.lay(r, 39, MAX - r), 1, 0);
        }
        for (int r = 0; r < 6; r++) {
            tells(g, "each its own", g.at(r, 39), 1, MAX - r);
        }
        due("row(6, 1)", g.row(6, 1), BAD);
        due("row(0, 0)", g.row(0, 0), 0);
        of(0, "TEXTS 0 .. 3 rows of 0 to 80 bytes,");
        for (int t = 0; t < 4; t++) {
            due("text(" + t + ", 80)", g.text(t, 80), 80);
            due("put(" + t + ", 79, " + t + ")", g.put(t, 79, t), 1032);
        }
        for (int t = 0; t < 4; t++) {
            due("each its own", g.put(t, 79, 0), 1000 + t);
        }
        due("text(4, 1)", g.text(4, 1), BAD);
        due("text(0, 0)", g.text(0, 0), 0);
        of(0, "or missing (at first).");
        GuineaHours n = new GuineaHours();
        due("no ROWS", n.count(6), 0);
        due("no TEXTS", n.count(7), 0);
        of(0, "A TOWN (without PEOPLE, HOURS at first) is a TEXT:");
        due("no PEOPLE", n.count(0), 0);
        due("no HOURS", n.count(1), 0);
        due("nobody to begin with", n.begin(0), BAD);
        due("no ROWS of HANDS", n.fits(), STATE);
    }

    private static void blanks() {
        of(0, "blanks (32) ahead, between, behind as many as wanted, none within items.");
        faultIs("     h1     m00     m00     ", NONE);
        faultIs("h1m00m00", NONE);
        faultIs("h 1", 1);
        faultIs("h1 m 0", 4);
        faultIs("h1 m0 0", 5);
        faultIs("h2 m00 0", 6);
        faultIs("\th1", 0);
        faultIs("h1\t", 2);
        faultIs("h1 m00\n", 6);
        GuineaHours g = new GuineaHours();
        g.text(0, 80);
        int[] town = {'h', '1', 's', '9', '-'};
        int[] places = {40, 41, 77, 78, 79};
        for (int k = 0; k < 5; k++) {
            g.put(0, places[k], town[k]);
        }
        due("to the TEXT's last byte", g.town(0), 1);
        g.put(0, 42, 0);
        due("a byte 0 is no blank", g.fault(0), 42);
        g.put(0, 42, 160);
        due("a byte 160 is none", g.fault(0), 42);
    }

    private static void heads() {
        of(0, "The first item is h (104) and how many HOURS (1 .. 5, one figure);");
        for (int hours = 1; hours <= 5; hours++) {
            faultIs("h" + hours, NONE);
            due("HOURS", in("h" + hours).count(1), hours);
        }
        faultIs("h0", 1);
        faultIs("h6", 1);
        faultIs("h9", 1);
        faultIs("h/", 1);
        faultIs("h:", 1);
        faultIs("h11", 2);
        faultIs("h-1", 1);
        faultIs("H1", 0);
        faultIs("g1", 0);
        faultIs("i1", 0);
        faultIs("1", 0);
        faultIs("m00 h1", 0);
        faultIs("h1 h1", 3);
        of(0, "then PEOPLE 0, 1, .. (7 at most; none, too):");
        due("none", in("h5").town(0), 0);
        due("one", in("h5 m000000").town(0), 1);
        due("seven", in(SEVEN).town(0), 7);
        faultIs(SEVEN + " m000000", SEVEN.length() + 1);
        GuineaHours g = in("h1 m10 p21");
        tells(g, "the first", g.person(0, 1), 1, 1);
        tells(g, "the second", g.person(1, 1), 1, 2);
    }

    private static void items() {
        of(0, "a letter, a FEE (0 .. 9, one figure),");
        GuineaHours g = in("h1 m00 p90");
        tells(g, "FEE 0", g.person(0, 1), 1, 0);
        tells(g, "FEE 9", g.person(1, 1), 1, 9);
        faultIs("h1 m/0", 4);
        faultIs("h1 m:0", 4);
        faultIs("h1 m-0", 4);
        faultIs("h1 mm0", 4);
        faultIs("h1 m100", 6);
        for (int sign = 33; sign < 127; sign++) {
            faultIs("h1 " + (char) sign + "00", "mpsegt".indexOf(sign) < 0 ? 3 : NONE);
        }
        of(0, "and for each HOUR where that one is: a figure 0 .. 5, or - (45): nowhere.");
        g = in("h3 m005-");
        tells(g, "place 0", g.place(0, 0), 1, 0);
        tells(g, "place 5", g.place(0, 1), 1, 5);
        tells(g, "nowhere", g.place(0, 2), 1, NONE);
        for (int sign = 33; sign < 127; sign++) {
            boolean is = sign == '-' || sign >= '0' && sign <= '5';
            faultIs("h2 m00" + (char) sign, is ? NONE : 6);
        }
        faultIs("h2 m0000", 7);
        faultIs("h2 m00", 6);
        faultIs("h2 m00 m000", 6);
    }

    private static void faults() {
        of(0, "A FAULT is the first place at which it can't go on so (a letter, a sign, a figure that is none such: its place;");
        faultIs("x1 m0x x", 0);
        faultIs("hx m0x x", 1);
        faultIs("h1 x00 m0x", 3);
        faultIs("h1 mx0 m0x", 4);
        faultIs("h1 m0x m0x", 5);
        faultIs("h1 m00 m0x", 9);
        faultIs("h1 m00 x", 7);
        faultIs("h1 m00x", 6);
        GuineaHours g = new GuineaHours();
        for (int i : new int[] {0, 1, 3, 4, 5}) {
            write(g, 0, "h1 m00");
            g.put(0, i, "h1 m00".charAt(i) + 128);
            due("byte " + i + " below 0", g.fault(0), i);
        }
        of(0, "an eighth one: the letter;");
        faultIs("h1m00m00m00m00m00m00m00", NONE);
        faultIs("h1m00m00m00m00m00m00m00m00", 23);
        faultIs("h1m00m00m00m00m00m00m00  m", 25);
        faultIs("h1m00m00m00m00m00m00m00x", 23);
        faultIs("h1m00m00m00m00m00m00m00   ", NONE);
        of(0, "the TEXT's size, if its end comes too early,");
        faultIs("h", 1);
        faultIs("   h", 4);
        faultIs("h1 m", 4);
        faultIs("h1 m0", 5);
        faultIs("h5 m00123", 9);
        faultIs("h5 m001234 m", 12);
        g.text(0, 80);
        g.put(0, 79, 'h');
        due("of 80 bytes", g.fault(0), 80);
        int[] ahead = {'h', '5', 'm', '0', '1', '2', '3', '4'};
        for (int many = 1; many <= ahead.length; many++) {
            g.text(0, 80);
            for (int k = 0; k < many; k++) {
                g.put(0, 80 - many + k, ahead[k]);
            }
            due("of 80 bytes, the last " + many, g.fault(0), many == 2 ? NONE : 80);
        }
        of(0, "or there are blanks alone).");
        faultIs("", 0);
        faultIs(" ", 1);
        g.text(0, 80);
        due("80 blanks", g.fault(0), 80);
    }

    private static void kinds() {
        of(0, "KINDS of PEOPLE and letters: 0 HAND (m, 109),");
        GuineaHours g = in("h1 m00 m00");
        tells(g, "KIND", g.person(0, 0), 1, 0);
        due("from the greater one", g.may(1, 0), 1);
        of(0, "1 PROUD (p, 112; a HAND: takes it from nobody of a greater number),");
        g = in("h1 m00 p00 m00");
        tells(g, "KIND", g.person(1, 0), 1, 1);
        due("from the lesser", g.may(0, 0), 0b110);
        due("from the greater", g.may(2, 0), 0b001);
        due("gives it as a HAND", g.may(1, 0), 0b101);
        g.times(1);
        tells(g, "has it as a HAND", g.person(1, 2), 1, 1);
        of(0, "2 SHY (s, 115; a HAND: takes it only where just both are at a place),");
        g = in("h4 m000-0 s0000- m0010-");
        tells(g, "KIND", g.person(1, 0), 1, 2);
        due("of three", g.may(0, 0), 0b100);
        due("just both", g.may(0, 1), 0b010);
        due("just both, the other one elsewhere", g.may(2, 1), 0);
        due("gives it as a HAND", g.may(1, 0), 0b101);
        due("just both of others", g.may(2, 2), 0b010);
        due("nowhere", g.may(0, 3), 0);
        of(0, "3 ELDER (e, 101; a HAND: may have it once more),");
        g = in("h5 e000000 m000000 m000000");
        g.times(1);
        tells(g, "KIND", g.person(0, 0), 1, 3);
        tells(g, "how often", g.person(0, 2), 1, 2);
        g.begin(0);
        g.give(1);
        due("once more", g.give(0), 2);
        g.give(2);
        due("not twice more", g.give(0), STATE);
        due("can()", g.can(), 0);
    }

    private static void goosesAndGreatOnes() {
        of(0, "4 GOOSE (g, 103; a HAND: gives it only to the next number, 0 behind the last),");
        GuineaHours g = in("h2 m000 g000 m001 g000");
        tells(g, "KIND", g.person(1, 0), 1, 4);
        due("to the next", g.may(1, 0), 0b0100);
        due("to the next, who is elsewhere", g.may(1, 1), 0);
        due("0 behind the last", g.may(3, 0), 0b0001);
        due("takes it as a HAND", g.may(0, 0), 0b1110);
        due("alone", in("h1 g00").may(0, 0), 0);
        due("two", in("h1 g00 g00").may(1, 0), 1);
        due("to a PROUD one behind the last", in("h1 p00 g00").may(1, 0), 0);
        due("to a SHY one of three", in("h1 g00 s00 m00").may(0, 0), 0);
        of(0, "5 GREAT (t, 116; an ELDER: may have it twice more;");
        g = in("h5 t000000 m000000 m000000 m000000");
        g.times(1);
        tells(g, "KIND", g.person(0, 0), 1, 5);
        tells(g, "how often", g.person(0, 2), 1, 3);
        g.begin(0);
        g.give(1);
        g.give(0);
        g.give(2);
        due("twice more", g.give(0), 4);
        due("then another", g.give(3), 5);
        g = in("h5 t000000 e000000");
        g.times(1);
        due("three times, until the ELDER can't", g.lots(0, 1), 4);
        due("an ELDER", in("h1 t00").count(3), 1);
        of(0, "takes it from no GOOSE).");
        due("from a GOOSE", in("h1 g00 t00").may(0, 0), 0);
        due("from another one", in("h1 m00 t00").may(0, 0), 2);
        due("from a GREAT one", in("h1 t00 t00").may(0, 0), 2);
        due("a GOOSE from a GREAT one", in("h1 t00 g00").may(0, 0), 2);
    }

    private static void mayGive() {
        of(0, "One MAY give it to another one in an HOUR, if both are at one place then,");
        GuineaHours g = in("h3 m005- m005- m010-");
        due("both there", g.may(0, 0), 0b010);
        due("at place 5", g.may(1, 1), 0b001);
        due("nowhere is no place", g.may(0, 2), 0);
        due("alone at a place", g.may(2, 0), 0);
        due("not to oneself", g.may(2, 1), 0);
        of(0, "and neither's KIND is against it.");
        due("the giver's", in("h1 g00 m01 m00").may(0, 0), 0);
        due("the taker's", in("h1 p00 m00").may(1, 0), 0);
        due("both, of four", in("h1 g00 t00 p00 s00").may(0, 0), 0);
    }

    private static void theLaw() {
        of(0, "THE LAW: it is with one in HOUR 0 and is given in each HOUR, 0, 1, .. to the last;");
        GuineaHours g = in("h2 m00- m001 m0-1");
        g.begin(0);
        due("in HOUR 0", g.give(1), 1);
        due("in HOUR 1", g.give(2), 2);
        due("to one who is nowhere in the last HOUR", g.ways(2, 0), 0);
        of(0, "who has it behind the last one has it at MIDNIGHT.");
        tells(g, "now()", g.now(), 2, 2);
        due("none further", g.give(1), STATE);
        due("ways(0, 2)", g.ways(0, 2), 1);
        of(0, "Nobody has it more often than TIMES (1 .. 5, 3 at first;");
        g = in("h5 m000000 m000000 m000000");
        due("three times", g.ways(0, 1) > 0 ? 1 : 0, 1);
        fill(g, 0, 0, 1, 0, 1, 0, 1);
        tells(g, "3 at first", g.judge(0), 5, 0);
        g.times(2);
        tells(g, "the third time", g.judge(0), 3, 3);
        g.times(1);
        tells(g, "the second time", g.judge(0), 1, 3);
        g.times(5);
        tells(g, "5", g.judge(0), 5, 0);
        of(0, "an ELDER, GREAT one as told more;");
        g = in("h5 e000000 t000000");
        g.times(1);
        fill(g, 0, 1, 0, 1, 0, 1, 0);
        tells(g, "an ELDER's third time", g.judge(0), 4, 3);
        fill(g, 0, 0, 1, 0, 1, 0, 1);
        tells(g, "an ELDER's third time", g.judge(0), 3, 3);
        g.times(2);
        tells(g, "by TIMES 2", g.judge(0), 5, 0);
        of(0, "to begin with it counts).");
        g = in(CROWD);
        g.times(1);
        g.begin(2);
        g.give(0);
        due("can()", g.can(), 0b1010);
        due("give(2)", g.give(2), STATE);
        due("often(2)", g.often(2), 1);
    }

    private static void backAndRows() {
        of(0, "By BACK (0 at first; 1)");
        GuineaHours g = in(CROWD);
        g.begin(0);
        g.give(1);
        due("0 at first", g.can(), 0b1101);
        g.back(1);
        due("1", g.can(), 0b1100);
        of(0, "it may not be given to who had it just ahead of the giver.");
        due("give(0)", g.give(0), STATE);
        g.give(2);
        due("who had it two ahead", g.can(), 0b1001);
        g.begin(1);
        due("nobody is ahead of the first", g.can(), 0b1101);
        g = in("h3 m0000 m0000");
        g.back(1);
        g.begin(0);
        g.give(1);
        due("nobody else", g.can(), 0);
        of(0, "A ROW of HANDS is PEOPLE, the first one in HOUR 0, one more for each HOUR.");
        g = in("h1 m00 m00");
        g.way(1, 0, 2);
        rowIs(g, 2, 1, 0);
        g = in(SEVEN);
        g.way(6, 5, 2);
        rowIs(g, 2, 6, 0, 1, 0, 1, 5);
    }

    private static void worth() {
        of(0, "2 WORTH of it to one: at MIDNIGHT 9;");
        GuineaHours g = in("h1 m90 m4- m20 m30");
        for (int x = 0; x < 4; x++) {
            tells(g, "worth(" + x + ", 1)", g.worth(x, 1), 9, NONE);
        }
        of(0, "ahead of it in an HOUR the most, of all to whom that one MAY give it then, of what it is WORTH to these in the next HOUR less their FEE");
        tells(g, "worth(0, 0)", g.worth(0, 0), 7, 2);
        tells(g, "worth(2, 0)", g.worth(2, 0), 6, 3);
        g = in("h2 m000 m10- m300 m40-");
        tells(g, "not to the least FEE: it can't go on from there", g.worth(0, 0), 6, 2);
        tells(g, "6 less 0, 9 less 3", g.worth(1, 0), 6, 0);
        of(0, "(0 at least;");
        g = in("h2 m500 m900 m600");
        tells(g, "4 less 6, 4 less 9", g.worth(0, 0), 0, 1);
        tells(g, "3 less 5, 4 less 6: the first", g.worth(1, 0), 0, 0);
        due("9 less 9", in("h1 m00 m90").worth(0, 0), 0);
        of(0, "without any: 0).");
        g = in("h1 m00 m01");
        tells(g, "nobody", g.worth(0, 0), 0, NONE);
        of(0, "(TIMES, BACK aside.)");
        g = in("h3 m0000 m0000");
        g.times(1);
        g.back(1);
        tells(g, "worth(0, 0)", g.worth(0, 0), 9, 1);
    }

    private static void keeping() {
        of(0, "A set KEEPS it from an HOUR on for so many HOURS, if one of the set can have it then,");
        GuineaHours g = in("h2 m000 m000 m01-");
        tells(g, "one alone, none", g.keeps(4, 0), 0, 4);
        tells(g, "one of the set can't go on", g.keeps(7, 0), 2, 3);
        tells(g, "nowhere in that HOUR", g.keeps(4, 1), 0, 4);
        of(0, "and it can be given among them so long (each MAY; TIMES, BACK aside).");
        g.times(1);
        g.back(1);
        tells(g, "among two", g.keeps(3, 0), 2, 3);
        tells(g, "not to others", g.keeps(1, 0), 0, 1);
        g = in("h1 p00 m00");
        tells(g, "who MAY", g.keeps(3, 0), 1, 1);
    }

    private static void byChance() {
        of(0, "BY CHANCE: each gives it, in an HOUR, to one of all to whom that one MAY, all alike likely;");
        GuineaHours g = in("h1 m00 m00 m00 m00 m00 m00 m00");
        fraction(g, "one of six", g.odds(0, 0, 6), 1, 1, 6);
        fraction(g, "not to oneself", g.odds(0, 0, 0), 1, 0, 1);
        g = in("h2 m000 m00- m000 m000");
        fraction(g, "one of three, one of two", g.odds(0, 0, 0), 1, 1, 3);
        of(0, "without any it stays LOST.");
        fraction(g, "LOST", g.lost(0, 0), 1, 1, 3);
        fraction(g, "for good", g.lost(1, 1), 1, 1, 1);
        fraction(g, "nobody has it then", g.odds(1, 1, 1), 1, 0, 1);
        g = in("h2 m00- m010");
        fraction(g, "LOST in HOUR 0", g.lost(0, 0), 1, 1, 1);
    }

    private static void sights() {
        of(0, "SIGHTS 0, 1, .. (8 at most):");
        GuineaHours g = in(CROWD);
        for (int n = 0; n < 8; n++) {
            due("sight", g.sight(n % 4, 0, 0), n);
        }
        due("a ninth one", g.sight(0, 0, 0), FULL);
        due("still eight", g.count(4), 8);
        tells(g, "all of them tell", g.fits(), 24, 0b1110);
        of(0, "in an HOUR (or at MIDNIGHT: as many as there are HOURS)");
        g = in(CROWD);
        g.sight(3, 2, 1);
        tells(g, "at MIDNIGHT", g.where(3), 4, 2);
        g = in(CROWD);
        g.sight(2, 2, 1);
        tells(g, "in the last HOUR", g.where(2), 4, 2);
        tells(g, "not at MIDNIGHT then", g.where(3), 0b1011, NONE);
        of(0, "it was with one (1), or not (0).");
        g.forget(0);
        tells(g, "all", g.fits(), 108, 15);
        g.sight(0, 3, 0);
        tells(g, "not with 3", g.fits(), 81, 7);
        g.sight(0, 0, 1);
        tells(g, "with 0", g.fits(), 27, 1);
    }

    private static void lots() {
        of(0, "3 LOTS: a number comes from the one ahead by 48271 times it modulo 2147483647,");
        GuineaHours g = in(CROWD);
        g.lots(0, 1);
        handsAre(g, 0, 2, 0, 1);
        of(0, "the first from a seed (1 .. 2147483646).");
        g.lots(0, MAX - 1);
        handsAre(g, 0, 1, 2, 1);
        due("seed 0", g.lots(1, 0), BAD);
        due("seed MAX", g.lots(1, MAX), BAD);
        due("seed -1", g.lots(1, -1), BAD);
        due("seed MIN", g.lots(1, MIN), BAD);
    }

    /** Who had it on a DAY to MIDNIGHT, one behind the other; undoes it. */
    private static void handsAre(GuineaHours g, int... hands) {
        for (int h = hands.length - 1; h >= 0; h--) {
            tells(g, "who had it in HOUR " + h, g.now(), hands[h], h);
            g.undo();
        }
    }
}
