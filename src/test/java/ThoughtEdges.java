/** Edges of what comes of it in thought: part 3 of the "Terms" and promises 28 and 30 to 37. */
final class ThoughtEdges {
    private final Edges e;

    ThoughtEdges(Edges edges) {
        e = edges;
    }

    void all() {
        least();
        leastPromise();
        days();
        ever();
        hire();
        feast();
        closes();
        worst();
        fits();
        sure();
    }

    private void least() {
        e.terms();
        e.sentence("3. WHAT COMES OF IT (in thought; nothing is changed)");
        // that nothing changes is looked behind every question by Edges itself
        e.run("person(1, 2)", "person(2, 3)", "person(3, 4)", "person(4, 5)", "know(0, 3, 8)", "coachman(0, 1, 0)", "ask(1, 5)", "seed(7)", "image()",
            "\"x\"", "least(0)", "least(1)", "days(0)", "ever(0)", "ever(1)", "hire()", "feast(15)", "closes(0, 1)", "worst()", "fits(15)", "sure(15)",
            "head()", "knownOf(0, 3) = 8", "knownOf(0, 1) = -1", "status(8) = 7", "status(7) = 1", "status(4) = 0", "status(5) = 0");
        e.sentence("LEAST WAITING: of all ways to send GROUPS behind comings (as many as one likes, whoever is in the yard) "
            + "that with the least WAITING together, of all PEOPLE;");
        e.run("least(0) = 0", "person(0, 9)", "least(0) = 216", "change(0, 0, 23)", "least(0) = 9", "change(0, 1, 0)", "least(0) = 0");
        e.run("person(0, 9)", "person(0, 9)", "person(0, 9)", "person(0, 9)", "person(0, 9)", "person(0, 9)", "person(0, 9)", "meet(127)",
            "least(0) = 1512", "least(1) = 0", "know(0, 1, -1)", "least(0) = 1512", "ask(0, 2)", "least(0) = 1512+-432", "least(1) = 1");
        e.run("person(0, 9)", "person(23, 9)", "ask(0, 2)", "least(0) = 207", "know(0, 1, 0)", "least(0) = 216+9");
        // who comes last need not be of the greatest number, nor who ride be neighbours
        e.run("person(23, 9)", "person(0, 9)", "ask(0, 2)", "least(0) = 207", "least(1) = 1");
        e.run("person(0, 9)", "person(0, 9)", "person(0, 9)", "ask(0, 2)", "know(0, 1, 0)", "know(1, 2, 0)", "least(0) = 216", "least(1) = 1");
        // to let 0 1 go at once would leave 2 alone
        e.run("person(0, 0)", "person(0, 9)", "person(1, 9)", "ask(0, 2)", "least(0) = 9", "least(1) = 1", "coachman(0, 1, 0)",
            "waits(0, -1) = 207");
        e.sentence("how many coaches it has (of several ways the most).");
        e.run("least(1) = 0", "person(0, 0)", "person(23, 0)", "ask(0, 2)", "least(0) = 0", "least(1) = 1", "know(0, 1, 0)", "least(1) = 0");
        e.run("person(0, 0)", "person(0, 0)", "person(0, 0)", "person(0, 0)", "person(0, 0)", "person(0, 0)", "person(0, 0)", "ask(0, 2)",
            "least(0) = 0", "least(1) = 3", "ask(0, 3)", "least(1) = 2", "ask(0, 4)", "least(1) = 1");
        // two coaches could go, 0 2 and 1 3, but 0 1 alone wait less
        e.run("person(0, 9)", "person(0, 9)", "person(23, 0)", "person(23, 0)", "ask(0, 2)", "least(0) = 0", "least(1) = 2", "know(2, 3, 0)",
            "least(0) = 0", "least(1) = 1", "most(15) = 2");
    }

    private void leastPromise() {
        e.promise(28);
        e.sentence("LEAST WAITING (what 0), its coaches (1).");
        e.run("least(0) = 0", "least(1) = 0", "crowd(3)", "least(0) = 0", "least(1) = 1", "crowd(4)", "least(0) = 24", "least(1) = 2");
        e.sentence("BAD.");
        e.run("least(-1) = -2", "least(2) = -2", "least(MIN) = -2", "least(MAX) = -2", "crowd(7)", "least(2) = -2", "least(-1) = -2");
    }

    private void days() {
        e.terms();
        e.sentence("ON by a COACHMAN: days, one after the other, each as above (behind it they are KNOWN), till on one no coach goes, "
            + "30 at most: on how many one went.");
        e.run("coachman(0, 1, 0)", "days(0) = 0", "crowd(2)", "days(0) = 0", "person(0, 0)", "days(0) = 1", "know(0, 1, 0)", "days(0) = 0");
        // 0 rides with each of the six others on a day of its own
        e.run("crowd(7)", "ask(0, 2)", "meet(126)", "coachman(0, 1, 0)", "coachman(1, 5, 0)", "days(0) = 6", "days(1) = 6", "status(5) = 0");
        // three of three strangers: on each day one pair
        e.run("crowd(3)", "ask(0, 2)", "coachman(0, 4, 0)", "days(0) = 3", "day(0) = 1", "days(0) = 2", "day(0) = 1", "days(0) = 1", "day(0) = 1",
            "days(0) = 0");
        // nobody forgets in thought
        e.run("crowd(3)", "ask(1, 1)", "coachman(0, 1, 0)", "days(0) = 1");
        e.promise(30);
        e.sentence("ON.");
        e.run("coachman(7, 3, 9)", "days(7) = 0", "crowd(4)", "days(7) = 1", "ask(0, 2)", "days(7) = 3", "ask(0, 4)", "days(7) = 1");
        DayEdges.wantsMan(e, "days", "");
    }

    private void ever() {
        e.terms();
        e.sentence("EVER: of all rows of GROUPS, each possible when those ahead of it are KNOWN, whoever comes when: "
            + "the most (LONGEST), the fewest behind which no GROUP is left (SOONEST).");
        int[][] dueOfThree = {{0, 0}, {0, 0}, {0, 0}, {1, 1}, {1, 1}, {2, 2}, {4, 2}, {7, 5}};
        int[][] dueOfFour = {{0, 0}, {0, 0}, {0, 0}, {0, 0}, {1, 1}, {1, 1}, {1, 1}, {2, 2}};
        for (int n = 0; n <= 7; n++) {
            int pairs = n * (n - 1) / 2;
            e.run("crowd(" + n + ")", "ever(0) = " + dueOfThree[n][0], "ever(1) = " + dueOfThree[n][1], "ask(0, 4)", "ever(0) = " + dueOfFour[n][0],
                "ever(1) = " + dueOfFour[n][1], "ask(0, 2)", "ever(0) = " + pairs, "ever(1) = " + pairs);
        }
        // each asked first, whatever was asked ahead
        e.run("crowd(7)", "ever(1) = 5", "ever(0) = 7", "ever(1) = 5", "meet(7)", "ever(1) = 4");
        e.run("crowd(6)", "ever(1) = 2", "know(0, 1, 0)", "ever(1) = 2", "ever(0) = 4");
        e.run("crowd(7)", "meet(127)", "ever(0) = 0", "ever(1) = 0", "ask(0, 2)", "ever(0) = 0", "ever(1) = 0", "know(3, 5, -1)", "ever(0) = 1",
            "ever(1) = 1");
        // 0 1 2 and 0 3 4 and 1 3 5 and 2 4 5 use each pair once; 0 1 3 alone may leave none of the first three
        e.run("crowd(6)", "know(0, 5, 0)", "know(1, 4, 0)", "know(2, 3, 0)", "groups(63) = 8", "ever(0) = 4", "ever(1) = 2");
        e.promise(31);
        e.sentence("LONGEST (what 0), SOONEST (1).");
        e.run("ever(0) = 0", "ever(1) = 0", "crowd(6)", "ever(0) = 4", "ever(1) = 2", "person(0, 0)", "ever(0) = 7", "ever(1) = 5");
        e.sentence("BAD.");
        e.run("ever(-1) = -2", "ever(2) = -2", "ever(MIN) = -2", "ever(MAX) = -2", "crowd(3)", "ever(2) = -2", "ever(-1) = -2");
    }

    private void hire() {
        e.terms();
        e.sentence("HIRE: by how much more MOST from all PEOPLE is with one more, a STRANGER to all.");
        for (int seats = 2; seats <= 4; seats++) {
            for (int n = 0; n <= 7; n++) {
                int more = (n + 1) / seats - n / seats;
                e.run("ask(0, " + seats + ")", "crowd(" + n + ")", "hire() = " + more, "status(0) = " + n);
            }
        }
        e.promise(32);
        e.sentence("HIRE.");
        e.run("hire() = 0", "ask(0, 2)", "hire() = 0", "crowd(1)", "hire() = 1", "person(0, 0)", "hire() = 0", "know(0, 1, 0)", "hire() = 1");
        e.run("crowd(7)", "meet(127)", "hire() = 0", "ask(0, 2)", "hire() = 1", "ask(0, 4)", "hire() = 0", "status(0) = 7", "status(16) = 0");
        e.run("crowd(7)", "meet(7)", "meet(120)", "hire() = 1", "ask(0, 4)", "hire() = 0");
    }

    private void feast() {
        e.terms();
        e.sentence("FEAST of a set: by how much LONGEST is less, if all of it are KNOWN to each other.");
        e.run("crowd(7)", "feast(0) = 0", "feast(64) = 0", "feast(3) = 1", "feast(7) = 1", "feast(127) = 7", "knownOf(0, 1) = -1");
        e.run("crowd(7)", "ask(0, 2)", "feast(1) = 0", "feast(3) = 1", "feast(7) = 3", "feast(127) = 21", "know(0, 1, 9)", "feast(3) = 0",
            "feast(7) = 2");
        e.run("crowd(2)", "feast(3) = 0", "person(0, 0)", "feast(3) = 1", "feast(7) = 1");
        e.promise(33);
        e.sentence("FEAST.");
        e.run("feast(0) = 0", "crowd(3)", "feast(0) = 0", "feast(1) = 0", "feast(6) = 1", "feast(7) = 1", "meet(7)", "feast(7) = 0");
        e.sentence("BAD.");
        GroupEdges.badSets(e, "feast");
    }

    private void closes() {
        e.terms();
        e.sentence("SPENT: how many GROUPS of all PEOPLE there are, and how many there would be if two were KNOWN (CLOSES: by how many fewer).");
        e.run("crowd(7)", "groups(127) = 35", "closes(0, 1) = 5", "closes(6, 5) = 5", "know(0, 1, 0)", "groups(127) = 30", "closes(0, 1) = 0",
            "closes(0, 2) = 4", "ask(0, 2)", "closes(0, 1) = 0", "closes(0, 2) = 1", "ask(0, 4)", "closes(2, 3) = 9", "closes(0, 2) = 6");
        e.run("crowd(2)", "closes(0, 1) = 0", "person(0, 0)", "closes(1, 0) = 1", "closes(2, 0) = 1");
        e.promise(34);
        e.sentence("CLOSES (0: they are KNOWN).");
        e.run("crowd(3)", "closes(0, 1) = 1", "know(0, 1, 99)", "closes(0, 1) = 0", "closes(1, 0) = 0", "closes(2, 0) = 0", "know(0, 1, -1)",
            "closes(1, 0) = 1");
        e.sentence("BAD: also the same.");
        for (String bad : new String[] {"0, 0", "2, 2", "0, 3", "3, 0", "3, 3", "-1, 0", "0, -1", "-1, -1", "MIN, 0", "0, MAX", "MAX, MIN"}) {
            e.run("crowd(3)", "closes(" + bad + ") = -2");
        }
        e.run("closes(0, 1) = -2", "closes(0, 0) = -2", "crowd(7)", "closes(0, 7) = -2", "closes(7, 6) = -2");
    }

    private void worst() {
        e.promise(35);
        e.sentence("The two STRANGERS (10 times P and Q, P below Q) that CLOSE most, of several the first.");
        e.run("crowd(7)", "worst() = 1", "know(0, 1, 0)", "worst() = 23", "ask(0, 2)", "worst() = 2", "know(0, 2, 0)", "worst() = 3");
        e.run("crowd(7)", "meet(63)", "know(6, 0, 0)", "know(6, 1, 0)", "know(6, 2, 0)", "know(6, 3, 0)", "know(6, 4, 0)", "worst() = 56");
        // 4 with any other closes two, all the rest one
        e.run("crowd(5)", "know(0, 1, 0)", "know(2, 3, 0)", "worst() = 4", "know(0, 4, 0)", "worst() = 14");
        // without a group all close none, and the first two that are strangers are it
        e.run("crowd(2)", "worst() = 1", "ask(0, 4)", "worst() = 1", "person(0, 0)", "know(0, 1, 0)", "worst() = 2", "know(0, 2, 0)", "worst() = 12");
        e.sentence("STUCK: there are no STRANGERS.");
        e.run("worst() = -5", "crowd(1)", "worst() = -5", "person(0, 0)", "know(0, 1, 0)", "worst() = -5", "know(0, 1, -1)", "worst() = 1");
        e.run("crowd(7)", "meet(127)", "worst() = -5", "ask(0, 2)", "worst() = -5");
    }

    private void fits() {
        e.terms();
        e.sentence("FITS of a set (5 PEOPLE at most): STRANGERS of it may be KNOWN to each other in secret: "
            + "in how many ways (each two are, or not) no GROUP is in it.");
        // labelled graphs without a triangle, without four of whom each two are joined, without an edge
        e.run("crowd(7)", "fits(0) = 1", "fits(1) = 1", "fits(3) = 2", "fits(7) = 7", "fits(15) = 41", "fits(31) = 388", "fits(124) = 388");
        e.run("crowd(7)", "ask(0, 4)", "fits(0) = 1", "fits(64) = 1", "fits(3) = 2", "fits(7) = 8", "fits(15) = 63", "fits(31) = 958",
            "fits(124) = 958");
        e.run("crowd(7)", "ask(0, 2)", "fits(0) = 1", "fits(1) = 1", "fits(3) = 1", "fits(31) = 1", "fits(124) = 1");
        e.run("crowd(7)", "know(0, 1, 0)", "fits(3) = 1", "fits(7) = 4", "fits(21) = 7", "meet(31)", "fits(31) = 1", "fits(63+-2) = 16");
        e.promise(36);
        e.sentence("FITS.");
        e.run("fits(0) = 1", "crowd(7)", "fits(0) = 1", "fits(112) = 7", "fits(124) = 388", "meet(127)", "fits(31) = 1");
        e.sentence("BAD: also more than 5.");
        GroupEdges.badSets(e, "fits");
        e.run("crowd(7)", "fits(31) = 388", "fits(63) = -2", "fits(126) = -2", "fits(127) = -2", "fits(127+-8) = -2", "meet(127)", "fits(63) = -2");
    }

    private void sure() {
        e.terms();
        e.sentence("SURE of a set: the two STRANGERS (10 times P and Q, P below Q) that are KNOWN in most of these ways, of several the first.");
        e.run("crowd(7)", "sure(31) = 1", "sure(124) = 23", "sure(112) = 45", "sure(96) = 56", "sure(64+1) = 6");
        // 2 3 is in both groups that are left
        e.run("crowd(4)", "sure(15) = 1", "know(0, 1, 0)", "sure(15) = 23", "know(2, 3, 0)", "sure(15) = 2", "know(0, 2, 0)", "sure(15) = 3");
        // a pair of the group comes ahead of one that is in none
        e.run("crowd(5)", "fits(31) = 388", "meet(15)", "know(0, 1, -1)", "know(2, 3, -1)", "know(0, 4, 0)", "know(1, 4, 0)", "sure(31) = 23",
            "isGroup(28) = 1", "ask(0, 4)", "sure(31) = 1");
        e.promise(37);
        e.sentence("SURE.");
        e.run("crowd(7)", "sure(3) = 1", "ask(0, 2)", "sure(31) = 1", "know(0, 1, 0)", "sure(31) = 2", "sure(96) = 56");
        e.sentence("BAD: also more than 5;");
        GroupEdges.badSets(e, "sure");
        e.run("crowd(7)", "sure(31) = 1", "sure(63) = -2", "sure(126) = -2", "sure(127) = -2", "sure(127+-8) = -2", "meet(127)", "sure(63) = -2");
        e.sentence("STUCK: no STRANGERS in it.");
        e.run("sure(0) = -5", "crowd(7)", "sure(0) = -5", "sure(1) = -5", "sure(64) = -5", "know(0, 1, 0)", "sure(3) = -5", "sure(7) = 2",
            "meet(31)", "sure(31) = -5", "sure(32) = -5", "sure(48) = 45");
    }
}
