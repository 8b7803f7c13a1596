/** Promises 42 to 46: chance, two guineas, lots; a test for each sentence. */
final class ChanceEdges extends Check {
    /** In a TOWN of two HOURS and three PEOPLE. */
    private static final int[] NO_MOMENTS = {-1, 3, MIN, MAX};
    private static final int[] NO_ONES = {-1, 3, MIN, MAX};

    private ChanceEdges() {
    }

    static void all() {
        odds();
        lost();
        send();
        sendRefused();
        two();
        twoAtMost();
        lots();
        lotsRefused();
    }

    private static void odds() {
        of(42, "Odds that y has it at MIDNIGHT BY CHANCE, if x (perhaps the same) has it in an HOUR");
        GuineaHours g = in(SMALL);
        fraction(g, "odds(2, 0, 1)", g.odds(2, 0, 1), 1, 1, 1);
        fraction(g, "odds(1, 0, 1)", g.odds(1, 0, 1), 1, 1, 2);
        fraction(g, "odds(0, 0, 1)", g.odds(0, 0, 1), 1, 0, 1);
        fraction(g, "odds(0, 1, 1)", g.odds(0, 1, 1), 1, 1, 1);
        GuineaHours seven = in(SEVEN);
        seven.times(1);
        seven.back(1);
        fraction(seven, "another one of seven; TIMES, BACK aside", seven.odds(6, 0, 0), 1, 1111, 7776);
        fraction(seven, "the same of seven", seven.odds(6, 0, 6), 1, 185, 1296);
        fraction(seven, "in the last HOUR", seven.odds(6, 4, 0), 1, 1, 6);
        of(42, "(or at MIDNIGHT), told by upper(), lower(): 1.");
        fraction(g, "MIDNIGHT, the same", g.odds(2, 2, 2), 1, 1, 1);
        fraction(g, "MIDNIGHT, another one", g.odds(2, 2, 1), 1, 0, 1);
        of(42, "BAD.");
        g.odds(1, 0, 1);
        for (int h : NO_MOMENTS) {
            fraction(g, "odds(0, " + h + ", 0)", g.odds(0, h, 0), BAD, 1, 2);
        }
        for (int x : NO_ONES) {
            fraction(g, "odds(" + x + ", 0, 0)", g.odds(x, 0, 0), BAD, 1, 2);
            fraction(g, "odds(0, 0, " + x + ")", g.odds(0, 0, x), BAD, 1, 2);
            fraction(g, "odds(0, 2, " + x + ")", g.odds(0, 2, x), BAD, 1, 2);
        }
        due("without a TOWN", new GuineaHours().odds(0, 0, 0), BAD);
    }

    private static void lost() {
        of(43, "Odds that it is LOST BY CHANCE ahead of MIDNIGHT, if one has it in an HOUR");
        GuineaHours g = in(SMALL);
        fraction(g, "lost(0, 0)", g.lost(0, 0), 1, 1, 2);
        fraction(g, "lost(2, 0)", g.lost(2, 0), 1, 0, 1);
        fraction(g, "nobody to give it to", g.lost(2, 1), 1, 1, 1);
        GuineaHours far = in("h5 m000000 m00000- m0----0");
        fraction(far, "never", far.lost(0, 0), 1, 0, 1);
        fraction(far, "in the last HOUR", far.lost(1, 0), 1, 1, 1);
        fraction(far, "nowhere", far.lost(2, 0), 1, 1, 1);
        of(43, "(or at MIDNIGHT), told by upper(), lower(): 1.");
        fraction(g, "MIDNIGHT", g.lost(2, 2), 1, 0, 1);
        fraction(far, "MIDNIGHT, who was nowhere", far.lost(2, 5), 1, 0, 1);
        of(43, "BAD.");
        g.lost(0, 0);
        for (int h : NO_MOMENTS) {
            fraction(g, "lost(0, " + h + ")", g.lost(0, h), BAD, 1, 2);
        }
        for (int x : NO_ONES) {
            fraction(g, "lost(" + x + ", 0)", g.lost(x, 0), BAD, 1, 2);
        }
        due("without a TOWN", new GuineaHours().lost(0, 0), BAD);
    }

    private static void send() {
        of(44, "To whom one should give it in an HOUR, so that, BY CHANCE from then on, "
            + "another one (perhaps the same) has it at MIDNIGHT most likely");
        GuineaHours g = in("h2 m00- m000 m001 m0-0 m0-1 m0-1");
        fraction(g, "1 of 1", g.send(0, 0, 3), 1, 1, 1);
        fraction(g, "1 of 2, not the first", g.send(0, 0, 5), 2, 1, 2);
        fraction(g, "from another one", g.send(1, 0, 4), 2, 1, 2);
        GuineaHours small = in(SMALL);
        fraction(small, "to 0", small.send(1, 0, 1), 0, 1, 1);
        GuineaHours back = in("h2 m000 m00- m000 m0-0");
        fraction(back, "to the same", back.send(0, 0, 0), 2, 1, 2);
        fraction(back, "in the last HOUR, whom it is for", back.send(0, 1, 3), 3, 1, 1);
        of(44, "(the first), told by upper(), lower().");
        fraction(g, "0 of all", g.send(0, 0, 0), 1, 0, 1);
        fraction(back, "0 of all in the last HOUR", back.send(0, 1, 1), 2, 0, 1);
        GuineaHours crowd = in(CROWD);
        fraction(crowd, "alike likely", crowd.send(0, 1, 0), 1, 1, 3);
    }

    private static void sendRefused() {
        GuineaHours g = in(SMALL);
        of(44, "NONE: nobody (upper(), lower() stay).");
        fraction(g, "before any", g.send(2, 1, 0), NONE, 0, 1);
        g.lost(0, 0);
        fraction(g, "as they were", g.send(2, 1, 2), NONE, 1, 2);
        of(44, "BAD (also at MIDNIGHT).");
        for (int h : new int[] {-1, 2, 3, MIN, MAX}) {
            fraction(g, "send(0, " + h + ", 0)", g.send(0, h, 0), BAD, 1, 2);
        }
        for (int x : NO_ONES) {
            fraction(g, "send(" + x + ", 0, 0)", g.send(x, 0, 0), BAD, 1, 2);
            fraction(g, "send(0, 0, " + x + ")", g.send(0, 0, x), BAD, 1, 2);
            fraction(g, "send(2, 1, " + x + "), ahead of NONE", g.send(2, 1, x), BAD, 1, 2);
        }
        due("without a TOWN", new GuineaHours().send(0, 0, 0), BAD);
    }

    private static void two() {
        of(45, "Two guineas with two unlike ones in HOUR 0,");
        GuineaHours g = in("h5 m000000 m000000 m011111 m011111");
        due("two(0, 2)", g.two(0, 2), 5);
        due("two(3, 1)", g.two(3, 1), 5);
        of(45, "given on in each HOUR as long as who have them are not at one place then");
        due("at one place in HOUR 0", g.two(0, 1), 0);
        g = in("h3 m0010 m0010 m0110 m0110");
        due("at one place in HOUR 1", g.two(0, 2), 1);
        g = in("h3 m0000 m0000 m0110 m0110");
        due("at one place in the last HOUR", g.two(0, 2), 2);
        g = in("h1 m0- m0- m00 m00");
        due("nowhere", g.two(0, 1), 0);
        due("one nowhere", g.two(2, 0), 0);
        of(45, "(each MAY; TIMES, BACK aside):");
        g = in("h1 m00 m00 p01 m01");
        due("to a PROUD one", g.two(0, 3), 0);
        due("of a PROUD one", g.two(0, 2), 1);
        g = in("h5 m000000 m000000 m011111 m011111");
        g.times(1);
        g.back(1);
        due("TIMES, BACK aside", g.two(0, 2), 5);
    }

    private static void twoAtMost() {
        of(45, "for how many HOURS both can be given at most.");
        GuineaHours g = in("h2 m000 m001 m000 m011 m011 m001");
        due("by the right one of three", g.two(0, 3), 2);
        due("only one can be given", in("h1 m00 m00 m01").two(0, 2), 0);
        due("only one can be given further", in("h2 m000 m000 m011 m01-").two(0, 2), 1);
        g = in("h3 m0010 m0001 m0220 m0223 m00-1");
        due("one is alone in HOUR 1", g.two(0, 2), 1);
        g = in("h2 m000 m00- m011 m01- m050 m051");
        due("who gave it has it no longer", g.two(0, 2), 1);
        g = in("h2 m000 m00- m011 m011 m053 m053");
        due("others have none", g.two(0, 2), 1);
        g = in("h2 m000 m000 m011 m011 m012 m051");
        due("the last one can't give it further, one ahead can", g.two(0, 2), 2);
        g = in("h4 m00-41 m00040 m00131 m01-3- m0112- m0102- m0--20");
        due("one has it in two ways, by the first of which it goes on", g.two(0, 3), 4);
        g = in(SMALL);
        of(45, "BAD: also alike.");
        due("alike", g.two(2, 2), BAD);
        for (int x : NO_ONES) {
            due("two(" + x + ", 0)", g.two(x, 0), BAD);
            due("two(0, " + x + ")", g.two(0, x), BAD);
        }
        due("alike, and none", g.two(3, 3), BAD);
        due("without a TOWN", new GuineaHours().two(0, 1), BAD);
    }

    /** Who had it on a DAY, one behind the other; undoes it. */
    private static void handsAre(GuineaHours g, int... hands) {
        for (int h = hands.length - 1; h >= 0; h--) {
            tells(g, "who had it in HOUR " + h, g.now(), hands[h], h);
            due("undone", g.undo(), h == 0 ? STATE : h - 1);
        }
    }

    private static void lots() {
        of(46, "A DAY by LOTS of a seed from one on: in each HOUR a number: of those to whom it can be given by THE LAW "
            + "the one at it modulo how many there are (from 0, the least first);");
        GuineaHours g = in(CROWD);
        g.lots(0, 1);
        handsAre(g, 0, 2, 0, 1);
        g.lots(0, MAX - 1);
        handsAre(g, 0, 1, 2, 1);
        g.back(1);
        g.lots(0, 1);
        handsAre(g, 0, 2, 1, 0);
        g.times(1);
        g.back(0);
        g.lots(0, 1);
        handsAre(g, 0, 2, 1, 3);
        of(46, "it ends at MIDNIGHT, or where none can be: the HOURS that went.");
        due("MIDNIGHT", g.lots(3, 9), 3);
        due("MIDNIGHT of five", in(SEVEN).lots(6, 5), 5);
        due("at once", in("h1 m00 m01").lots(0, 1), 0);
        GuineaHours pair = in("h5 m000000 m000000");
        pair.times(1);
        due("by TIMES", pair.lots(1, 7), 1);
        handsAre(pair, 1, 0);
        pair.times(2);
        due("by TIMES 2", pair.lots(1, 7), 3);
        pair.back(1);
        due("by BACK", pair.lots(0, 7), 1);
        handsAre(pair, 0, 1);
    }

    private static void lotsRefused() {
        GuineaHours g = in(SMALL);
        g.begin(1);
        g.keep(0);
        of(46, "BAD (also without HOURS).");
        for (int seed : new int[] {0, -1, MIN, MAX}) {
            due("lots(0, " + seed + ")", g.lots(0, seed), BAD);
        }
        for (int x : NO_ONES) {
            due("lots(" + x + ", 1)", g.lots(x, 1), BAD);
        }
        tells(g, "the DAY stays", g.now(), 1, 0);
        due("without HOURS", new GuineaHours().lots(0, 1), BAD);
        due("without PEOPLE", in("h5").lots(0, 1), BAD);
        of(46, "(This is the DAY then.)");
        g.times(1);
        due("lots(2, 1)", g.lots(2, 1), 2);
        tells(g, "now()", g.now(), 1, 2);
        due("often(2)", g.often(2), 1);
        due("count(2)", g.count(2), 2);
        due("kept DAYS stay", g.on(0), 0);
        g.times(1);
        g.lots(2, 1);
        due("kept", g.keep(1), 2);
        due("undone", g.undo(), 1);
        due("given", g.give(1), 2);
        GuineaHours n = in("h1 m00 m00");
        due("ahead of any begun one", n.lots(0, 5), 1);
        due("no more", n.give(0), STATE);
    }
}
