import java.util.ArrayList;
import java.util.List;

/** Edges of told days and of what comes to pass in truth: the last of the "Terms" and promises 38 to 40 and 42 to 48. */
final class TruthEdges {
    /** Seven strangers; in shelf 0 two right coaches and a wrong one, in shelf 1 a coachman, in shelf 7 a long row. */
    private static final String[] TOLD = {"crowd(7)", "row(0, 2, 3)", "set(0, 0, 7)", "set(0, 1, 56)", "set(0, 2, 73)", "coachman(1, 1, 0)",
        "row(7, 3, 40)"};

    private final Edges e;

    TruthEdges(Edges edges) {
        e = edges;
    }

    void all() {
        toldDay();
        judge();
        behind();
        rides();
        inTruth();
        meet();
        year();
        come();
        draws();
        seed();
        image();
        back();
        status();
        manyCalls();
    }

    private void toldDay() {
        e.terms();
        e.sentence("A told DAY: a ROW of GROUPS (bits), one for each coach, in the order in which they went: "
            + "WRONG: the first that is no GROUP, or of which somebody rode ahead.");
        e.run(ShelfEdges.and(TOLD, "judge(0, 0) = -1", "judge(0, 1) = -1", "judge(0, 2) = -1", "judge(0, 3) = 2", "set(0, 2, 64)", "judge(0, 3) = 2",
            "set(0, 0, 0)", "judge(0, 3) = 0", "set(0, 0, 3)", "judge(0, 1) = 0", "set(0, 0, 15)", "judge(0, 1) = 0", "set(0, 0, 7)", "know(1, 2, 0)",
            "judge(0, 2) = 0"));
        e.run(ShelfEdges.and(TOLD, "set(0, 1, 28)", "judge(0, 2) = 1", "set(0, 1, 7)", "judge(0, 2) = 1", "set(0, 1, 112)", "judge(0, 2) = -1",
            "judge(0, 3) = 2"));
        // numbers that are no set of people, though their lowest bits are
        for (String odd : new String[] {"-1", "128+7", "256+7", "4294967296+7", "LOW+7", "LOW", "HIGH", "MIN+7"}) {
            e.run(ShelfEdges.and(TOLD, "set(7, 0, " + odd + ")", "judge(7, 1) = 0", "behind(7, 1, 0) = -5", "rides(7, 1) = -5", "judge(7, 0) = -1"));
        }
        e.run("crowd(3)", "row(0, 0, 2)", "set(0, 0, 7)", "judge(0, 1) = -1", "set(0, 0, 8+4+2)", "judge(0, 1) = 0", "person(0, 0)", "judge(0, 1) = -1");
        e.run("crowd(7)", "row(0, 4, 1)", "set(0, 0, 7)", "judge(0, 1) = 0", "row(0, 0, 1)", "set(0, 0, 256+7)", "judge(0, 1) = -1");
        e.run("crowd(7)", "row(0, 0, 3)", "ask(0, 2)", "set(0, 0, 3)", "set(0, 1, 12)", "set(0, 2, 48)", "judge(0, 3) = -1", "ask(0, 4)",
            "judge(0, 3) = 0", "set(0, 0, 120)", "judge(0, 1) = -1", "judge(0, 2) = 1");
    }

    /** What all three calls of a told day refuse alike, as their sentences say it. */
    private void wantsRow(String call, String more, String bad, String fewer, String... alsoBad) {
        e.sentence(bad);
        for (String numbers : new String[] {"-1, 0", "8, 0", "MIN, 0", "MAX, 0", "0, -1", "0, 8", "0, MIN", "0, MAX", "1, 8", "1, -1", "2, 8", "2, -1",
            "7, 8", "8, 8"}) {
            e.run(ShelfEdges.and(TOLD, call + "(" + numbers + more + ") = -2", "status(5) = 0"));
        }
        e.run(ShelfEdges.and(TOLD, alsoBad));
        e.sentence("OTHER;");
        e.run(ShelfEdges.and(TOLD, call + "(1, 0" + more + ") = -3", call + "(1, 7" + more + ") = -3"));
        e.sentence("NOTHING;");
        e.run(ShelfEdges.and(TOLD, call + "(2, 0" + more + ") = -4", call + "(6, 7" + more + ") = -4"));
        e.sentence(fewer);
        e.run(ShelfEdges.and(TOLD, call + "(0, 4" + more + ") = -2", call + "(0, 7" + more + ") = -2", "set(0, 0, 0)", call + "(0, 4" + more + ") = -2"));
        e.run("row(0, 0, 0)", call + "(0, 1" + more + ") = -2", call + "(0, 7" + more + ") = -2");
        e.run("row(0, 0, 6)", call + "(0, 7" + more + ") = -2");
    }

    private void judge() {
        e.promise(38);
        e.sentence("A told DAY of the first n elements (0 to 7) of the ROW in SHELF s: WRONG; NONE.");
        e.run(ShelfEdges.and(TOLD, "judge(0, 0) = -1", "judge(0, 2) = -1", "judge(0, 3) = 2", "judge(7, 0) = -1", "judge(7, 1) = 0", "judge(7, 7) = 0",
            "status(12) = 0"));
        e.run("row(0, 0, 0)", "judge(0, 0) = -1", "row(0, 0, 7)", "judge(0, 7) = 0", "judge(0, 0) = -1");
        e.run("crowd(7)", "ask(0, 2)", "row(0, 0, 7)", "set(0, 0, 3)", "set(0, 1, 12)", "set(0, 2, 48)", "judge(0, 7) = 3", "set(0, 3, 64)",
            "judge(0, 7) = 3", "judge(0, 3) = -1");
        wantsRow("judge", "", "BAD SHELF, n;", "BAD: fewer elements.");
    }

    private void behind() {
        e.promise(39);
        e.sentence("Behind it: who didn't ride (bits; what 0), how many GROUPS of all PEOPLE there are then (1).");
        e.run(ShelfEdges.and(TOLD, "behind(0, 0, 0) = 127", "behind(0, 0, 1) = 35", "behind(0, 1, 0) = 120", "behind(0, 1, 1) = 22",
            "behind(0, 2, 0) = 64", "behind(0, 2, 1) = 9", "groups(127) = 35"));
        e.run("row(0, 0, 0)", "behind(0, 0, 0) = 0", "behind(0, 0, 1) = 0");
        e.run("crowd(3)", "row(0, 0, 1)", "set(0, 0, 7)", "behind(0, 1, 0) = 0", "behind(0, 1, 1) = 0");
        e.run("crowd(7)", "ask(0, 2)", "row(0, 0, 3)", "set(0, 0, 65)", "set(0, 1, 6)", "set(0, 2, 24)", "behind(0, 3, 0) = 32", "behind(0, 3, 1) = 18");
        wantsRow("behind", ", 0", "BAD, also what;", "BAD likewise;", "behind(0, 0, -1) = -2", "behind(0, 0, 2) = -2", "behind(0, 0, MIN) = -2",
            "behind(0, 0, MAX) = -2", "behind(1, 0, 2) = -2", "behind(2, 0, 2) = -2", "behind(0, 3, 2) = -2", "behind(1, 0, 1) = -3",
            "behind(2, 0, 1) = -4", "behind(0, 4, 1) = -2");
        e.sentence("STUCK: it may not be.");
        e.run(ShelfEdges.and(TOLD, "behind(0, 3, 0) = -5", "behind(0, 3, 1) = -5", "behind(7, 1, 0) = -5", "behind(7, 7, 1) = -5", "know(0, 1, 3)",
            "behind(0, 1, 0) = -5", "behind(0, 1, 1) = -5", "behind(0, 0, 0) = 127"));
    }

    private void rides() {
        e.promise(40);
        e.sentence("It comes to pass in truth (as a DAY): how many coaches.");
        e.run(ShelfEdges.and(TOLD, "rides(0, 2) = 2", "status(4) = 2", "status(5) = 1", "status(3) = 15", "knownOf(0, 2) = 0", "knownOf(3, 5) = 0",
            "knownOf(0, 3) = -1", "rides(0, 0) = 0", "status(4) = 2", "status(5) = 2"));
        e.run("row(0, 0, 0)", "rides(0, 0) = 0", "status(4) = 0", "status(5) = 1");
        e.run("crowd(2)", "row(7, 3, 1)", "set(7, 0, 3)", "ask(0, 2)", "rides(7, 1) = 1", "knownOf(0, 1) = 0", "rides(7, 1) = -5", "status(5) = 1");
        wantsRow("rides", "", "BAD;", "BAD;");
        e.sentence("STUCK likewise.");
        e.run(ShelfEdges.and(TOLD, "rides(0, 3) = -5", "status(3) = 21", "status(4) = 0", "status(5) = 0", "rides(7, 1) = -5", "rides(7, 7) = -5",
            "rides(0, 2) = 2", "rides(0, 1) = -5", "rides(0, 2) = -5", "status(5) = 1"));
    }

    private void inTruth() {
        e.terms();
        e.sentence("IN TRUTH a DAY by a COACHMAN: COACHES (0 at first) are as many more; DAYS is 1 more.");
        e.run("status(4) = 0", "status(5) = 0", "coachman(0, 1, 0)", "day(0) = 0", "status(4) = 0", "status(5) = 1", "crowd(7)", "day(0) = 2",
            "status(4) = 2", "status(5) = 2", "run(0)", "days(0)", "status(4) = 2", "status(5) = 2");
        e.sentence("A YEAR: those KNOWN are so since 1 YEAR more (99 at most);");
        e.run("crowd(4)", "know(0, 1, 0)", "know(0, 2, 98)", "know(0, 3, 99)", "year() = 0", "knownOf(0, 1) = 1", "knownOf(0, 2) = 99",
            "knownOf(0, 3) = 99", "knownOf(1, 2) = -1", "year() = 0", "knownOf(0, 2) = 99", "knownOf(0, 1) = 2", "status(6) = 2");
        e.sentence("with MEMORY not 0 those since more than MEMORY YEARS are STRANGERS again.");
        e.run("crowd(4)", "ask(1, 5)", "know(0, 1, 4)", "know(0, 2, 5)", "know(0, 3, 99)", "year() = 2", "knownOf(0, 1) = 5", "knownOf(0, 2) = -1",
            "knownOf(0, 3) = -1", "year() = 1", "knownOf(0, 1) = -1", "year() = 0");
        e.run("crowd(2)", "ask(1, 1)", "know(0, 1, 0)", "year() = 0", "knownOf(0, 1) = 1", "year() = 1", "knownOf(0, 1) = -1");
        e.run("crowd(2)", "ask(1, 99)", "know(0, 1, 99)", "year() = 0", "knownOf(0, 1) = 99", "ask(1, 98)", "knownOf(0, 1) = 99", "year() = 1");
        e.run("crowd(2)", "know(0, 1, 99)", "year() = 0", "ask(1, 0)", "year() = 0", "knownOf(0, 1) = 99");
    }

    private void meet() {
        e.promise(42);
        e.sentence("A FEAST in truth (all of a set are KNOWN since 0 YEARS): how many two were STRANGERS.");
        e.run("meet(0) = 0", "crowd(7)", "meet(0) = 0", "meet(64) = 0", "meet(96) = 1", "knownOf(5, 6) = 0", "meet(96) = 0", "meet(127) = 20",
            "status(3) = 0", "meet(127) = 0", "status(4) = 0", "status(5) = 0", "status(6) = 0");
        e.run("crowd(3)", "know(0, 1, 9)", "meet(3) = 0", "knownOf(0, 1) = 0", "know(0, 1, 9)", "meet(7) = 2", "knownOf(0, 1) = 0", "knownOf(1, 2) = 0");
        e.sentence("BAD.");
        GroupEdges.badSets(e, "meet");
    }

    private void year() {
        e.promise(43);
        e.sentence("A YEAR: how many two have forgotten each other.");
        e.run("year() = 0", "status(6) = 1", "crowd(7)", "year() = 0", "status(6) = 2", "meet(127)", "ask(1, 1)", "year() = 0", "year() = 21",
            "status(3) = 21", "year() = 0", "status(6) = 5", "status(5) = 0");
        e.run("crowd(3)", "meet(7)", "year() = 0", "year() = 0", "status(3) = 0", "ask(1, 2)", "know(0, 1, 1)", "year() = 2", "knownOf(0, 1) = 2");
    }

    private void come() {
        e.promise(44);
        e.sentence("BY DRAWS n PEOPLE (1 to 7), until there is no room: how many.");
        e.run("come(1) = 1", "status(0) = 1", "come(6) = 6", "status(0) = 7", "come(1) = 0", "come(7) = 0", "status(0) = 7", "status(16) = 0");
        e.run("come(7) = 7", "status(0) = 7");
        e.run("crowd(6)", "come(7) = 1", "status(0) = 7", "personOf(0, 0) = 0", "personOf(5, 1) = 1");
        e.run("crowd(7)", "status(8) = 1", "come(7) = 0", "status(8) = 1");
        e.sentence("BAD.");
        for (String bad : new String[] {"0", "8", "-1", "MIN", "MAX"}) {
            e.run("crowd(2)", "come(" + bad + ") = -2", "status(0) = 2", "status(8) = 1");
            e.run("crowd(7)", "come(" + bad + ") = -2");
        }
    }

    /** The draws as the document tells them, with longs in place of wrapping ints. */
    private static final class Draws {
        private long seed;

        Draws(int seed) {
            this.seed = seed & 0xFFFFFFFFL;
        }

        int below(int n) {
            seed = (seed * 1103515245L + 12345L) & 0xFFFFFFFFL;
            return (int) (seed / 65536 % n);
        }
    }

    private void draws() {
        e.terms();
        e.sentence("BY DRAWS n PEOPLE come to the town: HOUR a DRAW below 24, COST a DRAW below 10; then of all they are STRANGERS "
            + "but to those ahead of them by a DRAW below 3 that is 0 (by numbers): KNOWN since 0 YEARS.");
        for (int seed : new int[] {1, 2, 3, -7, 99999}) {
            comeAll(seed, 0);
            comeAll(seed, 3);
        }
        e.sentence("A DRAW below n: SEED (1 at first) becomes SEED times 1103515245, and 12345 (an int, wrapping); its upper 16 bits, no sign, modulo n.");
        // by hand: 1103527590 / 65536 = 16838, modulo 24 is 14; then 2524885223 / 65536 = 38526, modulo 10 is 6
        e.run("status(8) = 1", "come(1) = 1", "personOf(0, 0) = 14", "personOf(0, 1) = 6", "status(8) = -1770082073");
        // by hand: 12345 / 65536 = 0
        e.run("seed(0)", "come(1) = 1", "personOf(0, 0) = 0");
        for (int seed : new int[] {0, -1, Integer.MAX_VALUE, Integer.MIN_VALUE, Integer.MIN_VALUE + 1, 1 << 16, 0x7FFF0000, 0x80000000}) {
            comeAll(seed, 0);
            comeAll(seed, 6);
        }
    }

    /** All who have room come behind so many others. */
    private void comeAll(int seed, int others) {
        Draws draws = new Draws(seed);
        List<String> steps = new ArrayList<>(List.of("crowd(" + others + ")", "seed(" + seed + ") = 1", "come(7) = " + (7 - others)));
        for (int p = others; p < 7; p++) {
            steps.add("personOf(" + p + ", 0) = " + draws.below(24));
            steps.add("personOf(" + p + ", 1) = " + draws.below(10));
            for (int q = 0; q < p; q++) {
                steps.add("knownOf(" + p + ", " + q + ") = " + (draws.below(3) == 0 ? 0 : -1));
            }
        }
        steps.add("status(8) = " + (int) draws.seed);
        e.run(steps.toArray(new String[0]));
    }

    private void seed() {
        e.promise(45);
        e.sentence("SEED becomes v: the one ahead.");
        e.run("seed(0) = 1", "seed(-1) = 0", "seed(MIN) = -1", "seed(MAX) = MIN", "seed(-2) = MAX", "seed(-6) = -2", "status(8) = -6", "status(12) = 0",
            "status(16) = 0");
        Draws draws = new Draws(5);
        int hour = draws.below(24);
        int cost = draws.below(10);
        e.run("seed(5) = 1", "come(1) = 1", "personOf(0, 0) = " + hour, "personOf(0, 1) = " + cost, "seed(5) = " + (int) draws.seed, "come(1) = 1",
            "personOf(1, 0) = " + hour, "personOf(1, 1) = " + cost);
    }

    private void image() {
        e.promise(46);
        e.sentence("All is kept, but THE TAPE, SHELVES and REFUSALS: 1.");
        String[] kept = {"person(1, 2)", "person(3, 4)", "person(5, 6)", "know(0, 1, 7)", "ask(0, 2)", "ask(1, 9)", "coachman(0, 1, 0)", "day(0) = 1",
            "year() = 0", "seed(77)", "feed(59) = 1", "row(1, 2, 2)", "set(1, 0, 5)", "run(5) = -4", "image() = 1"};
        String[] changed = ShelfEdges.and(kept, "come(4) = 4", "change(0, 0, 20)", "change(0, 1, 0)", "meet(127)", "day(0)", "year()", "ask(0, 4)",
            "ask(1, 3)", "feed(59) = 2", "set(1, 0, 6)", "row(2, 0, 0)", "coachman(0, 2, 3)", "run(5) = -4", "back() = 1");
        e.run(ShelfEdges.and(changed, "status(0) = 3", "status(1) = 2", "status(2) = 9", "status(3) = 1", "status(4) = 1", "status(5) = 1",
            "status(6) = 1", "status(8) = 77", "personOf(0, 0) = 1", "personOf(0, 1) = 2", "knownOf(0, 1) = 8", "knownOf(0, 2) = 1",
            "knownOf(1, 2) = -1", "personOf(3, 0) = -2"));
        e.run(ShelfEdges.and(changed, "status(7) = 2", "wipe() = 2", "element(1, 0) = 6", "holds(2) = 0", "holds(0) = 12", "says(0, 0) = 3",
            "status(9) = 3", "status(14) = 2"));
        e.run("image() = 1", "image() = 1", "crowd(7)", "image() = 1", "meet(127)", "back() = 1", "status(3) = 21", "status(0) = 7");
        e.run("\"seats 2\"", "image() = 1", "town() = 1", "back() = 1", "status(1) = 3", "status(7) = 0", "town() = -20");
    }

    private void back() {
        e.promise(47);
        e.sentence("All is again as it was kept: 1.");
        e.run("crowd(2)", "image()", "crowd(5)", "back() = 1", "status(0) = 2", "crowd(3)", "meet(31)", "back() = 1", "status(0) = 2", "status(3) = 1",
            "person(0, 0) = 2", "knownOf(0, 2) = -1", "knownOf(1, 2) = -1");
        e.run("crowd(3)", "image()", "coachman(0, 1, 0)", "day(0) = 1", "back() = 1", "day(0) = 1", "back() = 1", "status(4) = 0", "status(5) = 0",
            "status(3) = 3");
        e.run("seed(9)", "image()", "come(3)", "personOf(0, 0)", "back() = 1", "status(8) = 9", "status(0) = 0");
        // who comes anew behind it is a stranger, whatever those ahead of it knew
        e.run("image()", "crowd(2)", "know(0, 1, 5)", "back() = 1", "crowd(2)", "knownOf(0, 1) = -1");
        e.sentence("STUCK: nothing was.");
        e.run("back() = -5", "crowd(2)", "back() = -5", "status(0) = 2", "status(15) = 2", "image() = 1", "back() = 1", "status(15) = 2");
    }

    private void status() {
        e.promise(48);
        e.sentence("PEOPLE (0), SEATS (1), MEMORY (2), how many two are STRANGERS (3), COACHES (4), DAYS (5), YEARS that went by (6), "
            + "THE TAPE's size (7), SEED (8), SHELVES that hold something (9);");
        e.run("status(0) = 0", "status(1) = 3", "status(2) = 0", "status(3) = 0", "status(4) = 0", "status(5) = 0", "status(6) = 0", "status(7) = 0",
            "status(8) = 1", "status(9) = 0");
        e.run("crowd(7)", "ask(0, 2)", "ask(1, 50)", "coachman(0, 1, 0)", "row(7, 0, 0)", "day(0)", "day(0)", "year()", "year()", "year()", "feed(1)",
            "feed(2)", "feed(3)", "feed(4)", "seed(-9)", "status(0) = 7", "status(1) = 2", "status(2) = 50", "status(3) = 15", "status(4) = 6",
            "status(5) = 2", "status(6) = 3", "status(7) = 4", "status(8) = -9", "status(9) = 2");
        e.sentence("12 to 16: REFUSALS -2 to -6.");
        e.run("crowd(7)", "row(0, 0, 0)", "run(8) = -2", "run(0) = -3", "run(0) = -3", "run(1) = -4", "run(1) = -4", "run(1) = -4", "back() = -5",
            "back() = -5", "back() = -5", "back() = -5", "person(0, 0) = -6", "person(0, 0) = -6", "person(0, 0) = -6", "person(0, 0) = -6",
            "person(0, 0) = -6", "status(12) = 1", "status(13) = 2", "status(14) = 3", "status(15) = 4", "status(16) = 5");
        e.sentence("NONE another what.");
        e.run("status(-1) = -1", "status(10) = -1", "status(11) = -1", "status(17) = -1", "status(MIN) = -1", "status(MAX) = -1", "status(-2) = -1",
            "status(12) = 0");
    }

    private void manyCalls() {
        e.terms();
        e.sentence("An object is used for at most 512 calls after it has been made; what later calls answer is free.");
        List<String> steps = new ArrayList<>(List.of("crowd(3)", "coachman(0, 1, 0)"));
        while (steps.size() < 2 + 502) {
            steps.add("day(0)");
        }
        // with the five counts that Edges asks for at the end these are 512 calls
        steps.add("day(0) = 0");
        e.run(steps.toArray(new String[0]));
        List<String> days = new ArrayList<>(steps.subList(0, 402));
        days.add("status(5) = 400");
        days.add("status(4) = 1");
        e.run(days.toArray(new String[0]));
        List<String> refused = new ArrayList<>();
        while (refused.size() < 400) {
            refused.add("run(0) = -4");
        }
        refused.add("status(14) = 400");
        e.run(refused.toArray(new String[0]));
    }
}
