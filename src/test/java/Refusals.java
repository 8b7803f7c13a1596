import java.util.ArrayList;
import java.util.List;

/** Of two objects alike one is asked what it refuses, or what only looks: they have to stay alike. */
final class Refusals extends Check {
    private interface Call {
        long on(GuineaHours g);
    }

    private interface Start {
        GuineaHours make();
    }

    private static final boolean TELLS = true, SILENT = false;

    private Refusals() {
    }

    static void all() {
        of(0, "What is refused changes nothing but finding(), findings().");
        badRows();
        badPeople();
        badHands();
        badChances();
        found();
        notNow();
        notNowWithoutTown();
        full();
        noughts();
        none();
        onlyLooks();
    }

    /** Of everything some. */
    private static GuineaHours rich() {
        GuineaHours g = in(SMALL);
        write(g, 1, "h2 m1");
        g.text(2, 0);
        fill(g, 0, 4, 5, 0);
        fill(g, 1, 0, 1, 0);
        g.row(2, 0);
        fill(g, 3, 7, -7, 70, 700, 77);
        g.times(2);
        g.begin(0);
        g.give(1);
        g.keep(1);
        g.sight(2, 1, 1);
        g.odds(1, 0, 1);
        g.on(2);
        g.at(3, 4);
        return g;
    }

    private static GuineaHours midnight() {
        GuineaHours g = rich();
        g.give(0);
        return g;
    }

    private static GuineaHours begun() {
        GuineaHours g = rich();
        g.begin(2);
        return g;
    }

    private static GuineaHours withoutDay() {
        GuineaHours g = in(SMALL);
        g.sight(0, 0, 0);
        fill(g, 0, 1, 2, 6);
        return g;
    }

    private static GuineaHours fullOfSights() {
        GuineaHours g = rich();
        for (int n = 1; n < 8; n++) {
            g.sight(n % 2, 2 - n % 2 * 2, 1);
        }
        return g;
    }

    private static GuineaHours nothingFits() {
        GuineaHours g = rich();
        g.sight(2, 1, 0);
        return g;
    }

    private static GuineaHours withoutTown() {
        GuineaHours g = new GuineaHours();
        g.text(0, 3);
        fill(g, 0, 3, 4, 5);
        g.times(4);
        g.back(1);
        g.at(0, 2);
        return g;
    }

    private static GuineaHours withoutPeople() {
        GuineaHours g = in("h2");
        fill(g, 0, 3, 4, 5);
        return g;
    }

    private static void refused(String call, Start start, Call asked, int want) {
        unchanged(call, start, asked, want, 0, SILENT, SILENT);
    }

    private static void bad(String call, Call asked) {
        refused(call, Refusals::rich, asked, BAD);
    }

    private static void finding(String call, Start start, Call asked, int which) {
        unchanged(call, start, asked, FINDING, which, SILENT, SILENT);
    }

    private static void unchanged(String call, Start start, Call asked, int want, int found, boolean tells, boolean shares) {
        GuineaHours g = start.make();
        GuineaHours twin = start.make();
        due(call, asked.on(g), want);
        for (int f = 1; f <= 5; f++) {
            due(call + ", findings(" + f + ")", g.findings(f), twin.findings(f) + (f == found ? 1 : 0));
        }
        due(call + ", finding()", g.finding(), found == 0 ? twin.finding() : found);
        if (!tells) {
            due(call + ", asked()", g.asked(), twin.asked());
        }
        if (!shares) {
            due(call + ", upper()", g.upper(), twin.upper());
            due(call + ", lower()", g.lower(), twin.lower());
        }
        List<Long> seen = look(g);
        List<Long> due = look(twin);
        due(call + ", all that can be seen then is as without it", seen.equals(due) ? 1 : 0, 1);
    }

    /** All that can be seen of an object, what is undone and gone on from, too. */
    private static List<Long> look(GuineaHours g) {
        List<Long> seen = new ArrayList<>();
        seen.add(g.digest());
        lookAtDay(g, seen);
        for (int h = 0; h <= 2; h++) {
            add(seen, g, g.where(h));
            add(seen, g, g.ask(h));
            add(seen, g, g.best(h));
            add(seen, g, g.fewest(h));
            for (int x = 0; x < 3; x++) {
                add(seen, g, g.may(x, h));
            }
        }
        add(seen, g, g.fits());
        for (int r = 0; r < 6; r++) {
            add(seen, g, g.judge(r));
        }
        while (g.undo() >= 0) {
            lookAtDay(g, seen);
        }
        for (int k = 0; k < 3; k++) {
            add(seen, g, g.on(k));
            seen.add(g.digest());
            lookAtDay(g, seen);
            while (g.undo() >= 0) {
                lookAtDay(g, seen);
            }
        }
        for (int t = 0; t < 4; t++) {
            add(seen, g, g.fault(t));
        }
        return seen;
    }

    private static void lookAtDay(GuineaHours g, List<Long> seen) {
        add(seen, g, g.now());
        add(seen, g, g.can());
        add(seen, g, g.ends());
    }

    private static void add(List<Long> seen, GuineaHours g, long answer) {
        seen.add(answer);
        seen.add((long) g.asked());
    }

    private static void badRows() {
        bad("row(-1, 1)", g -> g.row(-1, 1));
        bad("row(6, 1)", g -> g.row(6, 1));
        bad("row(0, 41)", g -> g.row(0, 41));
        bad("lay(-1, 0, 1)", g -> g.lay(-1, 0, 1));
        bad("lay(6, 0, 1)", g -> g.lay(6, 0, 1));
        bad("at(6, 0)", g -> g.at(6, 0));
        bad("tear(-1)", g -> g.tear(-1));
        bad("tear(6)", g -> g.tear(6));
        bad("copy(6, 0, 0, 0, 1)", g -> g.copy(6, 0, 0, 0, 1));
        bad("copy(0, 0, 6, 0, 1)", g -> g.copy(0, 0, 6, 0, 1));
        bad("mean(6)", g -> g.mean(6));
        bad("text(4, 1)", g -> g.text(4, 1));
        bad("text(0, 81)", g -> g.text(0, 81));
        bad("put(4, 0, 1)", g -> g.put(4, 0, 1));
        bad("fault(4)", g -> g.fault(4));
        bad("town(4)", g -> g.town(4));
        bad("town(-1)", g -> g.town(-1));
        bad("times(0)", g -> g.times(0));
        bad("times(6)", g -> g.times(6));
        bad("back(-1)", g -> g.back(-1));
        bad("back(2)", g -> g.back(2));
        bad("count(8)", g -> g.count(8));
        bad("findings(0)", g -> g.findings(0));
        bad("findings(6)", g -> g.findings(6));
    }

    private static void badPeople() {
        bad("person(3, 0)", g -> g.person(3, 0));
        bad("person(0, 3)", g -> g.person(0, 3));
        bad("place(3, 0)", g -> g.place(3, 0));
        bad("place(0, 2)", g -> g.place(0, 2));
        bad("mark(3, 1)", g -> g.mark(3, 1));
        bad("mark(1, 0)", g -> g.mark(1, 0));
        bad("mark(1, 6)", g -> g.mark(1, 6));
        bad("may(3, 0)", g -> g.may(3, 0));
        bad("may(0, 2)", g -> g.may(0, 2));
        bad("begin(-1)", g -> g.begin(-1));
        bad("begin(3)", g -> g.begin(3));
        bad("give(-1)", g -> g.give(-1));
        bad("give(3)", g -> g.give(3));
        bad("often(3)", g -> g.often(3));
        bad("keep(-1)", g -> g.keep(-1));
        bad("keep(3)", g -> g.keep(3));
        bad("on(-1)", g -> g.on(-1));
        bad("on(3)", g -> g.on(3));
    }

    private static void badHands() {
        bad("judge(6)", g -> g.judge(6));
        bad("ways(3, 0)", g -> g.ways(3, 0));
        bad("ways(0, 3)", g -> g.ways(0, 3));
        bad("way(3, 0, 0)", g -> g.way(3, 0, 0));
        bad("way(0, 3, 0)", g -> g.way(0, 3, 0));
        bad("way(0, 0, 6)", g -> g.way(0, 0, 6));
        bad("bars(3, 0)", g -> g.bars(3, 0));
        bad("bars(0, 3)", g -> g.bars(0, 3));
        bad("least(3, 0)", g -> g.least(3, 0));
        bad("least(0, 3)", g -> g.least(0, 3));
        bad("worth(3, 0)", g -> g.worth(3, 0));
        bad("worth(0, 3)", g -> g.worth(0, 3));
        bad("best(3)", g -> g.best(3));
        bad("keeps(8, 0)", g -> g.keeps(8, 0));
        bad("keeps(3, 3)", g -> g.keeps(3, 3));
        bad("fewest(3)", g -> g.fewest(3));
        bad("leaves(6, 0)", g -> g.leaves(6, 0));
        bad("leaves(0, 3)", g -> g.leaves(0, 3));
    }

    private static void badChances() {
        bad("sight(3, 0, 1)", g -> g.sight(3, 0, 1));
        bad("sight(0, 3, 1)", g -> g.sight(0, 3, 1));
        bad("sight(0, 0, 2)", g -> g.sight(0, 0, 2));
        bad("forget(-1)", g -> g.forget(-1));
        bad("forget(9)", g -> g.forget(9));
        bad("where(3)", g -> g.where(3));
        bad("ask(3)", g -> g.ask(3));
        bad("odds(3, 0, 0)", g -> g.odds(3, 0, 0));
        bad("odds(0, 3, 0)", g -> g.odds(0, 3, 0));
        bad("odds(0, 0, 3)", g -> g.odds(0, 0, 3));
        bad("lost(3, 0)", g -> g.lost(3, 0));
        bad("lost(0, 3)", g -> g.lost(0, 3));
        bad("send(3, 0, 0)", g -> g.send(3, 0, 0));
        bad("send(0, 2, 0)", g -> g.send(0, 2, 0));
        bad("send(0, 0, 3)", g -> g.send(0, 0, 3));
        bad("two(0, 0)", g -> g.two(0, 0));
        bad("two(3, 0)", g -> g.two(3, 0));
        bad("two(0, 3)", g -> g.two(0, 3));
        bad("lots(3, 1)", g -> g.lots(3, 1));
        bad("lots(0, 0)", g -> g.lots(0, 0));
        bad("lots(0, MAX)", g -> g.lots(0, MAX));
    }

    private static void found() {
        finding("row(0, -1)", Refusals::rich, g -> g.row(0, -1), SIZE);
        finding("lay(4, 0, 1)", Refusals::rich, g -> g.lay(4, 0, 1), NOTHING);
        finding("lay(0, 3, 1)", Refusals::rich, g -> g.lay(0, 3, 1), BEYOND);
        finding("at(4, 0)", Refusals::rich, g -> g.at(4, 0), NOTHING);
        finding("at(0, 3)", Refusals::rich, g -> g.at(0, 3), BEYOND);
        finding("tear(4)", Refusals::rich, g -> g.tear(4), NOTHING);
        finding("copy(0, 0, 1, 0, -1)", Refusals::rich, g -> g.copy(0, 0, 1, 0, -1), SIZE);
        finding("copy(4, 0, 0, 0, 1)", Refusals::rich, g -> g.copy(4, 0, 0, 0, 1), NOTHING);
        finding("copy(0, 0, 4, 0, 1)", Refusals::rich, g -> g.copy(0, 0, 4, 0, 1), NOTHING);
        finding("copy(3, 0, 0, 0, 4)", Refusals::rich, g -> g.copy(3, 0, 0, 0, 4), BEYOND);
        finding("copy(0, 0, 3, 0, 4)", Refusals::rich, g -> g.copy(0, 0, 3, 0, 4), BEYOND);
        finding("mean(4)", Refusals::rich, g -> g.mean(4), NOTHING);
        finding("mean(2)", Refusals::rich, g -> g.mean(2), NOUGHT);
        finding("text(0, -1)", Refusals::rich, g -> g.text(0, -1), SIZE);
        finding("put(3, 0, 1)", Refusals::rich, g -> g.put(3, 0, 1), NOTHING);
        finding("put(0, 17, 1)", Refusals::rich, g -> g.put(0, 17, 1), BEYOND);
        finding("fault(3)", Refusals::rich, g -> g.fault(3), NOTHING);
        finding("town(3)", Refusals::rich, g -> g.town(3), NOTHING);
        finding("mark(0, 1)", Refusals::rich, g -> g.mark(0, 1), UNLIKE);
        finding("on(0)", Refusals::rich, g -> g.on(0), NOTHING);
        finding("judge(4)", Refusals::rich, g -> g.judge(4), NOTHING);
        finding("judge(3)", Refusals::rich, g -> g.judge(3), SIZE);
        finding("judge(0)", Refusals::rich, g -> g.judge(0), UNLIKE);
        finding("leaves(4, 0)", Refusals::rich, g -> g.leaves(4, 0), NOTHING);
        finding("leaves(3, 0)", Refusals::rich, g -> g.leaves(3, 0), SIZE);
        finding("leaves(1, 0)", Refusals::rich, g -> g.leaves(1, 0), UNLIKE);
    }

    private static void notNow() {
        refused("town(1), a FAULT", Refusals::rich, g -> g.town(1), STATE);
        refused("town(2), an empty TEXT", Refusals::rich, g -> g.town(2), STATE);
        refused("give(1), to oneself", Refusals::rich, g -> g.give(1), STATE);
        refused("give(2), nowhere", Refusals::rich, g -> g.give(2), STATE);
        refused("give(1), MIDNIGHT", Refusals::midnight, g -> g.give(1), STATE);
        refused("give(1), a PROUD one", Refusals::begun, g -> g.give(1), STATE);
        refused("undo(), none was", Refusals::begun, g -> g.undo(), STATE);
        refused("give(0), no DAY", Refusals::withoutDay, g -> g.give(0), STATE);
        refused("undo(), no DAY", Refusals::withoutDay, g -> g.undo(), STATE);
        refused("now(), no DAY", Refusals::withoutDay, g -> g.now(), STATE);
        refused("often(0), no DAY", Refusals::withoutDay, g -> g.often(0), STATE);
        refused("can(), no DAY", Refusals::withoutDay, g -> g.can(), STATE);
        refused("ends(), no DAY", Refusals::withoutDay, g -> g.ends(), STATE);
        refused("keep(0), no DAY", Refusals::withoutDay, g -> g.keep(0), STATE);
        refused("best(0), no PEOPLE", Refusals::withoutPeople, g -> g.best(0), STATE);
        refused("leaves(0, 0), no PEOPLE", Refusals::withoutPeople, g -> g.leaves(0, 0), STATE);
        refused("leaves(4, 0), no PEOPLE", Refusals::withoutPeople, g -> g.leaves(4, 0), STATE);
    }

    private static void notNowWithoutTown() {
        Start start = Refusals::withoutTown;
        refused("undo()", start, g -> g.undo(), STATE);
        refused("now()", start, g -> g.now(), STATE);
        refused("can()", start, g -> g.can(), STATE);
        refused("ends()", start, g -> g.ends(), STATE);
        refused("keep(0)", start, g -> g.keep(0), STATE);
        refused("judge(0)", start, g -> g.judge(0), STATE);
        refused("best(0)", start, g -> g.best(0), STATE);
        refused("leaves(0, 0)", start, g -> g.leaves(0, 0), STATE);
        refused("fits()", start, g -> g.fits(), STATE);
        refused("where(0)", start, g -> g.where(0), STATE);
        refused("ask(0)", start, g -> g.ask(0), STATE);
        refused("town(0)", start, g -> g.town(0), STATE);
        refused("begin(0)", start, g -> g.begin(0), BAD);
        refused("give(0)", start, g -> g.give(0), BAD);
        refused("lots(0, 1)", start, g -> g.lots(0, 1), BAD);
        refused("sight(0, 0, 1)", start, g -> g.sight(0, 0, 1), BAD);
        finding("on(0)", start, g -> g.on(0), NOTHING);
        refused("fewest(0)", start, g -> g.fewest(0), NONE);
        refused("keeps(0, 0)", start, g -> g.keeps(0, 0), NONE);
    }

    private static void full() {
        refused("sight(0, 0, 1)", Refusals::fullOfSights, g -> g.sight(0, 0, 1), FULL);
        refused("sight(2, 1, 0)", Refusals::fullOfSights, g -> g.sight(2, 1, 0), FULL);
        refused("sight(3, 0, 1)", Refusals::fullOfSights, g -> g.sight(3, 0, 1), BAD);
    }

    private static void noughts() {
        finding("where(0)", Refusals::nothingFits, g -> g.where(0), NOUGHT);
        finding("ask(2)", Refusals::nothingFits, g -> g.ask(2), NOUGHT);
        finding("where(2), no PEOPLE", Refusals::withoutPeople, g -> g.where(2), NOUGHT);
        finding("ask(0), no PEOPLE", Refusals::withoutPeople, g -> g.ask(0), NOUGHT);
    }

    private static void none() {
        refused("fault(0)", Refusals::rich, g -> g.fault(0), NONE);
        refused("way(0, 1, 0)", Refusals::rich, g -> g.way(0, 1, 0), NONE);
        refused("way(0, 1, 4)", Refusals::rich, g -> g.way(0, 1, 4), NONE);
        refused("least(0, 1)", Refusals::rich, g -> g.least(0, 1), NONE);
        refused("keeps(0, 0)", Refusals::rich, g -> g.keeps(0, 0), NONE);
        refused("send(2, 1, 0)", Refusals::rich, g -> g.send(2, 1, 0), NONE);
        refused("count(2)", Refusals::withoutDay, g -> g.count(2), NONE);
    }

    /** What only looks changes nothing, either, but what it tells. */
    private static void onlyLooks() {
        looks("mean(3)", g -> g.mean(3), 1, TELLS);
        looks("at(0, 1)", g -> g.at(0, 1), 1, TELLS);
        looks("fault(1)", g -> g.fault(1), 5, SILENT);
        looks("person(2, 2)", g -> g.person(2, 2), 1, TELLS);
        looks("place(2, 1)", g -> g.place(2, 1), 1, TELLS);
        looks("mark(1, 1)", g -> g.mark(1, 1), 1, SILENT);
        looks("may(0, 0)", g -> g.may(0, 0), 6, SILENT);
        looks("now()", g -> g.now(), 1, TELLS);
        looks("often(1)", g -> g.often(1), 1, SILENT);
        looks("can()", g -> g.can(), 1, SILENT);
        looks("ends()", g -> g.ends(), 1, TELLS);
        looks("judge(1)", g -> g.judge(1), 2, TELLS);
        looks("ways(0, 0)", g -> g.ways(0, 0), 1, SILENT);
        looks("bars(0, 0)", g -> g.bars(0, 0), 2, SILENT);
        looks("least(0, 0)", g -> g.least(0, 0), 2, SILENT);
        looks("worth(0, 0)", g -> g.worth(0, 0), 7, TELLS);
        looks("best(0)", g -> g.best(0), 0, TELLS);
        looks("keeps(3, 0)", g -> g.keeps(3, 0), 2, TELLS);
        looks("fewest(0)", g -> g.fewest(0), 2, TELLS);
        looks("leaves(0, 0)", g -> g.leaves(0, 0), 0, SILENT);
        looks("fits()", g -> g.fits(), 2, TELLS);
        looks("where(0)", g -> g.where(0), 6, TELLS);
        looks("ask(0)", g -> g.ask(0), 1, TELLS);
        looks("two(0, 1)", g -> g.two(0, 1), 0, SILENT);
        looks("count(5)", g -> g.count(5), 1, SILENT);
        looks("asked()", g -> g.asked(), 77, SILENT);
        looks("upper()", g -> g.upper(), 1, SILENT);
        looks("lower()", g -> g.lower(), 2, SILENT);
        looks("finding()", g -> g.finding(), NOTHING, SILENT);
        looks("findings(1)", g -> g.findings(1), 1, SILENT);
        unchanged("odds(0, 2, 0)", Refusals::rich, g -> g.odds(0, 2, 0), 1, 0, SILENT, TELLS);
        unchanged("lost(2, 1)", Refusals::rich, g -> g.lost(2, 1), 1, 0, SILENT, TELLS);
        unchanged("send(0, 0, 0)", Refusals::rich, g -> g.send(0, 0, 0), 1, 0, SILENT, TELLS);
    }

    private static void looks(String call, Call asked, int want, boolean tells) {
        unchanged(call, Refusals::rich, asked, want, 0, tells, SILENT);
    }
}
