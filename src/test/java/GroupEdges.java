/** Edges of groups: the "Terms" on them and promises 18 to 22. */
final class GroupEdges {
    private static final String[] NO_SETS = {"-1", "MIN", "MAX", "128", "256", "-128"};

    private final Edges e;

    GroupEdges(Edges edges) {
        e = edges;
    }

    void all() {
        terms();
        mostTerms();
        isGroup();
        groups();
        firstOf();
        most();
        mostOf();
    }

    /** A call of one set is bad for every set that has a bit of nobody. */
    static void badSets(Edges e, String call) {
        e.run(call + "(1) = -2", call + "(-1) = -2");
        e.run("crowd(3)", call + "(8) = -2", call + "(9) = -2", call + "(15) = -2", call + "(-8) = -2", call + "(64) = -2");
        for (String set : NO_SETS) {
            e.run("crowd(7)", call + "(" + set + ") = -2");
        }
    }

    private void terms() {
        e.terms();
        e.sentence("A GROUP: SEATS of PEOPLE, each two of them STRANGERS.");
        e.run("crowd(7)", "ask(0, 2)", "isGroup(0) = 0", "isGroup(1) = 0", "isGroup(64) = 0", "isGroup(3) = 1", "isGroup(65) = 1",
            "isGroup(96) = 1", "isGroup(7) = 0", "know(0, 1, 99)", "isGroup(3) = 0", "isGroup(5) = 1");
        e.run("crowd(7)", "isGroup(3) = 0", "isGroup(7) = 1", "isGroup(112) = 1", "isGroup(15) = 0", "know(0, 1, 0)", "isGroup(7) = 0",
            "know(0, 1, -1)", "know(1, 2, 0)", "isGroup(7) = 0", "know(1, 2, -1)", "know(0, 2, 0)", "isGroup(7) = 0", "know(2, 0, -1)",
            "isGroup(7) = 1", "know(2, 3, 0)", "isGroup(7) = 1");
        e.run("crowd(7)", "ask(0, 4)", "isGroup(7) = 0", "isGroup(15) = 1", "isGroup(120) = 1", "isGroup(31) = 0", "isGroup(127) = 0",
            "know(0, 3, 5)", "isGroup(15) = 0", "isGroup(30) = 1");
        e.sentence("GROUPS are told as bits; in order: by the least number first, then the next, and so on (0 1 2 ahead of 0 1 3).");
        e.run("crowd(7)", "firstOf(127) = 7", "know(1, 2, 0)", "firstOf(127) = 1+2+8", "know(0, 1, 0)", "firstOf(127) = 1+4+8");
        // the bits of 0 5 6 are more than those of 1 2 3
        e.run("crowd(7)", "know(0, 1, 0)", "know(0, 2, 0)", "know(0, 3, 0)", "know(0, 4, 0)", "firstOf(127) = 1+32+64", "firstOf(126) = 14");
        // 0 1 6 is ahead of 0 2 3
        e.run("crowd(7)", "know(1, 2, 0)", "know(1, 3, 0)", "know(1, 4, 0)", "know(1, 5, 0)", "firstOf(127) = 1+2+64", "firstOf(63) = 13");
        // 0 1 2 6 is ahead of 0 1 3 4
        e.run("crowd(7)", "ask(0, 4)", "know(2, 3, 0)", "know(2, 4, 0)", "know(2, 5, 0)", "firstOf(127) = 1+2+4+64", "firstOf(63) = 27");
        e.run("crowd(7)", "ask(0, 2)", "firstOf(127) = 3", "know(0, 1, 0)", "know(0, 2, 0)", "firstOf(127) = 9", "firstOf(126) = 6");
    }

    private void mostTerms() {
        e.sentence("MOST from a set: the most GROUPS of it with nobody in two.");
        e.run("crowd(7)", "ask(0, 2)", "most(0) = 0", "most(1) = 0", "most(3) = 1", "most(7) = 1", "most(15) = 2", "most(31) = 2", "most(63) = 3",
            "most(127) = 3");
        e.run("crowd(7)", "most(3) = 0", "most(7) = 1", "most(31) = 1", "most(63) = 2", "most(127) = 2");
        e.run("crowd(7)", "ask(0, 4)", "most(7) = 0", "most(15) = 1", "most(127) = 1");
        // all groups need 0
        e.run("crowd(7)", "ask(0, 2)", "meet(126)", "most(127) = 1", "groups(127) = 6", "most(126) = 0");
        // the first group, 0 1, is in no way with the most: 2 knows all but 0, 3 knows all but 1
        e.run("crowd(4)", "ask(0, 2)", "know(2, 3, 0)", "know(1, 2, 0)", "know(0, 3, 0)", "most(15) = 2", "mostOf(15, 0) = 5", "mostOf(15, 1) = 10");
        e.sentence("ROWS of GROUPS: the first by GROUPS in their order.");
        e.run("crowd(4)", "ask(0, 2)", "mostOf(15, 0) = 3", "mostOf(15, 1) = 12", "know(2, 3, 0)", "mostOf(15, 0) = 5", "mostOf(15, 1) = 10");
        e.run("crowd(7)", "mostOf(127, 0) = 7", "mostOf(127, 1) = 8+16+32", "mostOf(126, 0) = 14", "mostOf(126, 1) = 112");
        // 0 1 2 would leave 3 and 4, who know each other; 0 1 3 leaves 2 4 5
        e.run("crowd(6)", "know(3, 4, 0)", "mostOf(63, 0) = 1+2+8", "mostOf(63, 1) = 4+16+32");
    }

    private void isGroup() {
        e.promise(18);
        e.sentence("Whether a set (bits) is a GROUP: 1, 0.");
        e.run("isGroup(0) = 0");
        e.run("crowd(7)", "isGroup(0) = 0", "isGroup(127) = 0", "isGroup(1+2+64) = 1", "isGroup(16+32+64) = 1", "know(4, 6, 1)",
            "isGroup(16+32+64) = 0");
        e.run("crowd(2)", "isGroup(3) = 0", "ask(0, 2)", "isGroup(3) = 1");
        e.sentence("BAD.");
        badSets(e, "isGroup");
    }

    private void groups() {
        e.promise(19);
        e.sentence("How many GROUPS a set has.");
        e.run("groups(0) = 0");
        e.run("crowd(7)", "groups(0) = 0", "groups(3) = 0", "groups(7) = 1", "groups(15) = 4", "groups(127) = 35", "ask(0, 4)", "groups(7) = 0",
            "groups(15) = 1", "groups(127) = 35", "ask(0, 2)", "groups(64) = 0", "groups(96) = 1", "groups(127) = 21");
        e.run("crowd(7)", "know(0, 1, 0)", "groups(127) = 30", "groups(7) = 0", "groups(126) = 20", "meet(127)", "groups(127) = 0");
        e.sentence("BAD.");
        badSets(e, "groups");
    }

    private void firstOf() {
        e.promise(20);
        e.sentence("The first GROUP of a set (0: none).");
        e.run("firstOf(0) = 0");
        e.run("crowd(7)", "firstOf(0) = 0", "firstOf(64) = 0", "firstOf(96) = 0", "firstOf(112) = 112", "firstOf(127) = 7", "firstOf(125) = 13",
            "meet(127)", "firstOf(127) = 0");
        e.run("crowd(3)", "ask(0, 4)", "firstOf(7) = 0", "person(0, 0)", "firstOf(15) = 15", "firstOf(14) = 0");
        e.sentence("BAD.");
        badSets(e, "firstOf");
    }

    private void most() {
        e.promise(21);
        e.sentence("MOST from a set.");
        e.run("most(0) = 0");
        e.run("crowd(7)", "most(0) = 0", "most(127) = 2", "most(63) = 2", "most(62) = 1", "most(96) = 0", "meet(127)", "most(127) = 0");
        e.sentence("BAD.");
        badSets(e, "most");
    }

    private void mostOf() {
        e.promise(22);
        e.sentence("The i-th GROUP of the first ROW with MOST from a set.");
        e.run("crowd(7)", "ask(0, 2)", "mostOf(127, 0) = 3", "mostOf(127, 1) = 12", "mostOf(127, 2) = 48", "mostOf(127, 3) = -5");
        e.run("crowd(7)", "mostOf(112, 0) = 112", "mostOf(112, 1) = -5", "mostOf(113, 0) = 1+16+32");
        e.run("crowd(7)", "ask(0, 4)", "mostOf(127, 0) = 15", "mostOf(127, 1) = -5");
        e.sentence("BAD;");
        e.run("mostOf(1, 0) = -2", "mostOf(0, -1) = -2", "mostOf(-1, 0) = -2");
        e.run("crowd(3)", "mostOf(8, 0) = -2", "mostOf(7, -1) = -2", "mostOf(7, MIN) = -2", "mostOf(15, 1) = -2", "mostOf(8, MAX) = -2");
        for (String set : NO_SETS) {
            e.run("crowd(7)", "mostOf(" + set + ", 0) = -2", "mostOf(" + set + ", 9) = -2");
        }
        e.sentence("STUCK: there are not so many.");
        e.run("mostOf(0, 0) = -5", "mostOf(0, MAX) = -5");
        e.run("crowd(7)", "mostOf(127, 1) = 56", "mostOf(127, 2) = -5", "mostOf(127, 7) = -5", "mostOf(127, MAX) = -5", "mostOf(3, 0) = -5",
            "mostOf(0, 0) = -5", "meet(127)", "mostOf(127, 0) = -5");
    }
}
