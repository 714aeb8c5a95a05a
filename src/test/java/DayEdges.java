/** Edges of days by coachmen: part 2 of the "Terms" and promises 23 to 27, 29 and 41. */
final class DayEdges {
    /** 0 and 1 come early, 2 an hour later, 3 in the last hour; each hour of waiting costs 1. */
    private static final String[] FOUR = {"person(0, 1)", "person(1, 1)", "person(2, 1)", "person(23, 1)", "ask(0, 2)", "coachman(0, 1, 0)",
        "coachman(7, 3, 4)", "row(1, 0, 3)"};

    private final Edges e;

    DayEdges(Edges edges) {
        e = edges;
    }

    void all() {
        comings();
        first();
        choose();
        waiter();
        spares();
        best();
        leftAndWaiting();
        knowledge();
        sends();
        run();
        coach();
        left();
        waits();
        head();
        day();
    }

    /** A call of a shelf, with more numbers behind it or not, that wants a coachman there; with steps on what else is bad. */
    static void wantsMan(Edges e, String call, String more, String... bad) {
        String[] men = {"crowd(3)", "coachman(0, 1, 0)", "row(1, 2, 3)", "coachman(7, 5, 9)"};
        e.sentence("BAD;");
        for (String shelf : new String[] {"-1", "8", "MIN", "MAX", "256"}) {
            e.run(ShelfEdges.and(men, call + "(" + shelf + more + ") = -2"));
        }
        e.run(ShelfEdges.and(men, bad));
        e.sentence("OTHER;");
        for (int sort = 0; sort <= 4; sort++) {
            e.run("crowd(3)", "row(0, " + sort + ", 0)", "row(7, " + sort + ", 40)", call + "(0" + more + ") = -3", call + "(7" + more + ") = -3");
        }
        e.run(ShelfEdges.and(men, "row(0, 0, 1)", call + "(0" + more + ") = -3"));
        e.sentence(call.equals("coach") ? "NOTHING;" : "NOTHING.");
        e.run(ShelfEdges.and(men, call + "(2" + more + ") = -4", call + "(6" + more + ") = -4", "coachman(8, 1, 0) = -2", call + "(2" + more + ") = -4"));
    }

    private void comings() {
        e.terms();
        e.sentence("2. A DAY PEOPLE come one after the other, by HOURS, and in each by numbers.");
        e.run("person(23, 1)", "person(0, 1)", "person(0, 1)", "ask(0, 2)", "coachman(0, 1, 0)", "run(0) = 1", "coach(0, 0) = 6", "left(0) = 1");
        e.run("crowd(3)", "ask(0, 2)", "coachman(0, 1, 0)", "run(0) = 1", "coach(0, 0) = 3", "left(0) = 4");
        e.run("person(5, 1)", "person(4, 1)", "person(3, 1)", "person(2, 1)", "ask(0, 2)", "coachman(0, 1, 0)", "run(0) = 2", "coach(0, 0) = 12",
            "coach(0, 1) = 3", "waits(0, -1) = 2");
        e.run("person(9, 1)", "person(8, 1)", "person(9, 1)", "person(8, 1)", "ask(0, 2)", "coachman(0, 1, 0)", "coach(0, 0) = 10",
            "coach(0, 1) = 5");
        e.sentence("Behind each coming the COACHMAN sends coaches, one after the other, as his KIND says, till he sends none.");
        e.run("crowd(6)", "ask(0, 2)", "coachman(0, 3, 6)", "run(0) = 3", "coach(0, 0) = 3", "coach(0, 1) = 12", "coach(0, 2) = 48",
            "waits(0, -1) = 0");
        // behind the fourth coming one coach goes, then two are too few; behind the last they needn't be four
        e.run("person(0, 1)", "person(1, 1)", "person(2, 1)", "person(3, 1)", "person(4, 1)", "ask(0, 2)", "coachman(0, 3, 4)", "run(0) = 2",
            "coach(0, 0) = 3", "coach(0, 1) = 12", "left(0) = 16", "waits(0, 0) = 3", "waits(0, 1) = 2", "waits(0, 2) = 2", "waits(0, 3) = 1",
            "waits(0, 4) = 20", "waits(0, -1) = 28");
        e.run("crowd(7)", "ask(0, 2)", "coachman(0, 3, 7)", "run(0) = 3", "left(0) = 64");
        e.sentence("Who rode is gone for the day.");
        e.run("crowd(3)", "ask(0, 2)", "coachman(0, 1, 0)", "coachman(1, 2, 0)", "coachman(2, 3, 0)", "coachman(3, 4, 0)", "coachman(4, 5, 0)",
            "run(0) = 1", "run(1) = 1", "run(2) = 1", "run(3) = 1", "run(4) = 1", "left(0) = 4", "left(4) = 4");
        e.sentence("KINDS of COACHMEN, with a (0 to 9):");
        e.run("coachman(0, 1, 0) = 1", "says(0, 0) = 0", "coachman(0, 5, 9) = 1", "says(0, 0) = 9", "coachman(0, 5, 10) = -2",
            "coachman(0, 5, -1) = -2", "says(0, 0) = 9");
    }

    private void first() {
        e.sentence("0 COACHMAN: sends none.");
        e.run("crowd(3)", "coachman(0, 0, 5) = -2", "holds(0) = -1", "coachman(0, 1, 5) = 1", "says(0, 0) = 5", "says(0, 1) = 7");
        e.sentence("1 FIRST, under COACHMAN: the first GROUP in the yard.");
        e.run("crowd(7)", "coachman(0, 1, 9)", "sends(0, 0, 0) = 0", "sends(0, 3, 7) = 0", "sends(0, 7, 7) = 7", "sends(0, 127, 0) = 7",
            "sends(0, 126, 7) = 14", "know(1, 2, 0)", "sends(0, 126, 7) = 2+8+16", "says(0, 0) = 9");
        e.run("crowd(4)", "coachman(0, 1, 0)", "ask(0, 4)", "sends(0, 15, 0) = 15", "sends(0, 14, 0) = 0", "meet(15)", "sends(0, 15, 0) = 0");
    }

    private void choose() {
        e.sentence("2 CHOOSE, under COACHMAN: the GROUP with the greatest COST together, of several the first.");
        e.run("person(0, 0)", "person(0, 0)", "person(0, 0)", "person(0, 9)", "coachman(0, 2, 0)", "sends(0, 15, 0) = 1+2+8", "sends(0, 7, 7) = 7",
            "sends(0, 3, 0) = 0", "change(2, 1, 1)", "sends(0, 15, 0) = 1+4+8", "change(0, 1, 1)", "change(1, 1, 1)", "sends(0, 15, 0) = 1+2+8");
        e.run("person(0, 0)", "person(0, 0)", "person(0, 0)", "coachman(0, 2, 0)", "sends(0, 7, 0) = 7");
        e.run("crowd(7)", "coachman(0, 2, 0)", "sends(0, 127, 0) = 7", "change(6, 1, 2)", "sends(0, 127, 0) = 1+2+64", "know(6, 0, 0)",
            "sends(0, 127, 0) = 2+4+64", "sends(0, 63, 0) = 7");
        e.run("person(0, 9)", "person(0, 9)", "person(0, 8)", "person(0, 9)", "ask(0, 2)", "know(0, 1, 0)", "know(0, 3, 0)", "coachman(0, 2, 9)",
            "sends(0, 15, 0) = 2+8");
    }

    private void waiter() {
        e.sentence("3 WAITS, under FIRST: as FIRST, but only if a PEOPLE at least are in the yard, or nobody is to come any more.");
        e.run("crowd(7)", "coachman(0, 3, 5)", "sends(0, 15, 1) = 0", "sends(0, 31, 1) = 7", "sends(0, 63, 7) = 7", "sends(0, 15, 0) = 7",
            "sends(0, 7, 0) = 7", "sends(0, 7, 7) = 0", "sends(0, 3, 0) = 0", "sends(0, 120, 1) = 0", "sends(0, 124, 1) = 28");
        e.run("crowd(7)", "coachman(0, 3, 0)", "sends(0, 7, 7) = 7", "sends(0, 3, 7) = 0", "sends(0, 0, 7) = 0", "sends(0, 0, 0) = 0");
        e.run("crowd(7)", "coachman(0, 3, 7)", "sends(0, 63, 1) = 0", "sends(0, 127, 1) = 7", "coachman(0, 3, 8)", "sends(0, 127, 1) = 0",
            "sends(0, 127, 0) = 7", "coachman(0, 3, 9)", "sends(0, 127, 7) = 0", "sends(0, 127, 0) = 7");
        e.run(ShelfEdges.and(FOUR, "coachman(7, 3, 9)", "run(7) = 2", "coach(7, 0) = 3", "coach(7, 1) = 12", "waits(7, -1) = 23+22+21",
            "coachman(7, 3, 3)", "coach(7, 0) = 3", "waits(7, -1) = 2+1+21", "coachman(7, 3, 2)", "waits(7, -1) = 1+21"));
    }

    private void spares() {
        e.sentence("4 SPARES, under CHOOSE: the GROUP whose PEOPLE have the fewest STRANGERS (of all PEOPLE, each one's counted), "
            + "of several the first.");
        // each one's counted: 4 and 4 and 3, though together they have the same five
        e.run("crowd(5)", "coachman(0, 4, 0)", "sends(0, 31, 0) = 7", "know(3, 4, 0)", "sends(0, 31, 0) = 1+2+8");
        // of all people: in the yard 0 1 2 have two strangers each, of all 0 has four, 1 two, 2 three
        e.run("crowd(5)", "ask(0, 2)", "know(1, 3, 0)", "know(1, 4, 0)", "know(2, 3, 0)", "coachman(0, 4, 0)", "sends(0, 7, 0) = 6",
            "sends(0, 3, 7) = 3", "sends(0, 1, 0) = 0");
        e.run("crowd(7)", "coachman(0, 4, 9)", "sends(0, 127, 0) = 7", "sends(0, 112, 0) = 112", "sends(0, 96, 0) = 0", "meet(120)",
            "sends(0, 127, 0) = 1+2+8", "meet(127)", "sends(0, 127, 0) = 0");
    }

    private void best() {
        e.sentence("5 BEST, under CHOOSE: the first GROUP without which as many coaches could still go from the yard at most (see below), less one.");
        // 0 1 would leave 2 3, who know each other
        e.run("crowd(4)", "ask(0, 2)", "coachman(0, 5, 0)", "sends(0, 15, 0) = 3", "know(2, 3, 0)", "sends(0, 15, 0) = 5", "sends(0, 7, 0) = 3",
            "sends(0, 12, 0) = 0", "sends(0, 1, 0) = 0", "sends(0, 0, 0) = 0");
        // from the yard: with 4 there too, 0 1 leaves 2 4
        e.run("crowd(5)", "ask(0, 2)", "coachman(0, 5, 0)", "know(2, 3, 0)", "sends(0, 31, 0) = 3", "sends(0, 31, 7) = 3", "sends(0, 15, 7) = 5");
        e.run("crowd(7)", "coachman(0, 5, 0)", "sends(0, 127, 0) = 7", "know(3, 4, 0)", "sends(0, 63, 0) = 1+2+8", "sends(0, 127, 0) = 7");
        e.run("crowd(7)", "ask(0, 4)", "coachman(0, 5, 0)", "sends(0, 127, 0) = 15", "sends(0, 112, 0) = 0");
    }

    private void leftAndWaiting() {
        e.terms();
        e.sentence("LEFT: who is in the yard behind the last coming.");
        e.run("coachman(0, 1, 0)", "left(0) = 0", "person(23, 0)", "left(0) = 1", "person(0, 0)", "left(0) = 3", "person(5, 0)", "left(0) = 0",
            "person(5, 0)", "coach(0, 0) = 14", "left(0) = 1");
        e.run("crowd(7)", "meet(127)", "coachman(0, 5, 0)", "left(0) = 127");
        e.sentence("WAITING: for each who rode COST times the hours from coming to the coach;");
        e.run("person(0, 9)", "person(23, 9)", "ask(0, 2)", "coachman(0, 1, 0)", "waits(0, 0) = 207", "waits(0, 1) = 0", "waits(0, -1) = 207",
            "change(0, 1, 0)", "waits(0, -1) = 0", "change(0, 1, 1)", "waits(0, -1) = 23", "change(1, 0, 0)", "waits(0, -1) = 0");
        e.sentence("for each LEFT COST times the hours to 24.");
        e.run("person(0, 9)", "coachman(0, 1, 0)", "waits(0, 0) = 216", "waits(0, -1) = 216", "change(0, 0, 23)", "waits(0, 0) = 9",
            "change(0, 1, 0)", "waits(0, 0) = 0");
        e.run("person(0, 9)", "person(0, 9)", "person(0, 9)", "person(0, 9)", "person(0, 9)", "person(0, 9)", "person(0, 9)", "meet(127)",
            "coachman(0, 1, 0)", "waits(0, -1) = 1512", "waits(0, 6) = 216");
    }

    private void knowledge() {
        e.sentence("KNOWLEDGE is as in the morning all day;");
        e.run("crowd(7)", "ask(0, 2)", "coachman(0, 1, 0)", "run(0) = 3", "knownOf(0, 1) = -1", "run(0) = 3", "coach(0, 0) = 3", "coach(0, 2) = 48");
        e.run("crowd(6)", "coachman(0, 4, 0)", "run(0) = 2", "coach(0, 1) = 56");
        e.sentence("behind the day all of one coach are KNOWN to each other since 0 YEARS.");
        e.run("crowd(7)", "coachman(0, 1, 0)", "day(0) = 2", "knownOf(0, 1) = 0", "knownOf(0, 2) = 0", "knownOf(1, 2) = 0", "knownOf(3, 5) = 0",
            "knownOf(2, 3) = -1", "knownOf(0, 6) = -1", "status(3) = 15");
        e.run("crowd(4)", "ask(0, 4)", "coachman(0, 1, 0)", "day(0) = 1", "status(3) = 0", "knownOf(0, 3) = 0");
    }

    private void sends() {
        e.promise(23);
        e.sentence("What the COACHMAN in SHELF s would send with a set in the yard, n (0 to 7) to come still (0: none).");
        e.run("crowd(4)", "coachman(0, 1, 0)", "coachman(7, 3, 4)", "sends(0, 0, 0) = 0", "sends(0, 15, 0) = 7", "sends(0, 15, 7) = 7",
            "sends(0, 14, 0) = 14", "sends(7, 14, 0) = 14", "sends(7, 14, 1) = 0", "sends(7, 15, 7) = 7", "sends(7, 14, 7) = 0");
        e.run("coachman(0, 1, 0)", "sends(0, 0, 0) = 0", "sends(0, 0, 7) = 0");
        e.sentence("BAD;");
        for (String bad : new String[] {"-1, 0, 0", "8, 0, 0", "MIN, 0, 0", "MAX, 0, 0", "0, 8, 0", "0, -1, 0", "0, MIN, 0", "0, MAX, 0", "0, 128, 0",
            "0, 0, -1", "0, 0, 8", "0, 0, MIN", "0, 0, MAX", "1, 8, 0", "1, 0, 8", "2, 8, 0", "2, 0, -1"}) {
            e.run("crowd(3)", "coachman(0, 1, 0)", "row(1, 0, 1)", "sends(" + bad + ") = -2");
        }
        e.run("coachman(0, 1, 0)", "sends(0, 1, 0) = -2", "crowd(7)", "sends(0, 128, 0) = -2");
        e.sentence("OTHER;");
        e.run("crowd(3)", "row(0, 0, 0)", "row(7, 4, 40)", "sends(0, 7, 0) = -3", "sends(7, 0, 7) = -3");
        e.sentence("NOTHING.");
        e.run("crowd(3)", "sends(0, 7, 0) = -4", "sends(7, 0, 7) = -4");
    }

    private void run() {
        e.promise(24);
        e.sentence("A DAY by the COACHMAN in SHELF s: how many coaches.");
        e.run("coachman(0, 1, 0)", "run(0) = 0", "crowd(2)", "run(0) = 0", "person(23, 0)", "run(0) = 1", "crowd(2)", "run(0) = 1", "person(0, 1)",
            "run(0) = 2", "status(4) = 0", "status(5) = 0");
        e.run(ShelfEdges.and(FOUR, "run(0) = 2", "run(7) = 2", "meet(15)", "run(0) = 0", "run(7) = 0"));
        e.run("crowd(7)", "ask(0, 2)", "coachman(7, 5, 0)", "run(7) = 3", "ask(0, 4)", "run(7) = 1");
        wantsMan(e, "run", "");
    }

    private void coach() {
        e.promise(25);
        e.sentence("The i-th coach of it (bits).");
        e.run("crowd(7)", "ask(0, 2)", "coachman(7, 1, 0)", "coach(7, 0) = 3", "coach(7, 1) = 12", "coach(7, 2) = 48", "coach(7, 3) = -5");
        e.run(ShelfEdges.and(FOUR, "coach(0, 0) = 3", "coach(0, 1) = 12", "know(0, 1, 0)", "coach(0, 0) = 5", "coach(0, 1) = 10"));
        wantsMan(e, "coach", ", 0", "coach(0, -1) = -2", "coach(0, MIN) = -2", "coach(1, -1) = -2", "coach(2, -1) = -2", "coach(8, 9) = -2",
            "coach(1, 9) = -3", "coach(2, 9) = -4");
        e.sentence("STUCK: there are not so many.");
        e.run("coachman(0, 1, 0)", "coach(0, 0) = -5", "crowd(2)", "coach(0, 0) = -5", "person(0, 0)", "coach(0, 0) = 7", "coach(0, 1) = -5",
            "coach(0, 7) = -5", "coach(0, MAX) = -5");
        e.run("crowd(6)", "coachman(0, 1, 0)", "coach(0, 1) = 56", "coach(0, 2) = -5");
    }

    private void left() {
        e.promise(26);
        e.sentence("LEFT (bits).");
        e.run("coachman(0, 1, 0)", "left(0) = 0", "crowd(2)", "left(0) = 3", "person(0, 0)", "left(0) = 0", "crowd(4)", "left(0) = 64", "meet(127)",
            "left(0) = 127");
        e.run(ShelfEdges.and(FOUR, "left(0) = 0", "left(7) = 0", "know(2, 3, 0)", "left(0) = 12"));
        wantsMan(e, "left", "");
    }

    private void waits() {
        e.promise(27);
        e.sentence("WAITING of one (NONE: of all).");
        e.run(ShelfEdges.and(FOUR, "waits(0, 0) = 1", "waits(0, 1) = 0", "waits(0, 2) = 21", "waits(0, 3) = 0", "waits(0, -1) = 22", "waits(7, -1) = 66"));
        e.run("coachman(0, 1, 0)", "waits(0, -1) = 0", "waits(0, 0) = -2", "person(23, 9)", "waits(0, -1) = 9", "waits(0, 0) = 9");
        wantsMan(e, "waits", ", 0", "waits(0, -2) = -2", "waits(0, 3) = -2", "waits(0, MIN) = -2", "waits(0, MAX) = -2", "waits(1, 3) = -2",
            "waits(2, -2) = -2", "waits(8, -1) = -2", "waits(1, -1) = -3", "waits(2, -1) = -4");
    }

    private void head() {
        e.promise(29);
        e.sentence("The SHELF with the COACHMAN by whom WAITING of all is least, of several the first.");
        e.run(ShelfEdges.and(FOUR, "waits(0, -1) = 22", "waits(7, -1) = 66", "head() = 0", "coachman(0, 3, 4)", "head() = 0", "coachman(7, 1, 0)",
            "head() = 7", "coachman(3, 1, 0)", "head() = 3", "row(3, 0, 0)", "head() = 7", "row(7, 0, 0)", "head() = 0"));
        e.run("coachman(7, 1, 0)", "head() = 7", "coachman(6, 5, 0)", "head() = 6", "crowd(7)", "head() = 6", "row(6, 0, 0)", "head() = 7");
        // of no costs all wait the same
        e.run("person(0, 0)", "person(5, 0)", "coachman(5, 1, 0)", "coachman(2, 3, 9)", "head() = 2");
        e.sentence("STUCK: none holds one.");
        e.run("head() = -5", "row(0, 0, 0)", "row(7, 4, 40)", "head() = -5", "crowd(7)", "head() = -5", "status(15) = 3");
        e.run("coachman(0, 1, 0)", "head() = 0", "row(0, 0, 1)", "head() = -5");
    }

    private void day() {
        e.promise(41);
        e.sentence("A DAY in truth by the COACHMAN in SHELF s: how many coaches.");
        e.run("coachman(0, 1, 0)", "day(0) = 0", "status(4) = 0", "status(5) = 1", "crowd(3)", "day(0) = 1", "status(4) = 1", "status(5) = 2",
            "status(3) = 0", "day(0) = 0", "status(4) = 1", "status(5) = 3");
        e.run("crowd(7)", "ask(0, 2)", "coachman(7, 1, 0)", "day(7) = 3", "status(3) = 18", "status(4) = 3", "status(5) = 1", "day(7) = 3",
            "status(4) = 6", "knownOf(0, 1) = 0", "status(6) = 0");
        wantsMan(e, "day", "");
    }
}
