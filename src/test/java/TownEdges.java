/** Edges of people and what they know: the "Terms" on them and promises 9 to 12, 16 and 17. */
final class TownEdges {
    private final Edges e;

    TownEdges(Edges edges) {
        e = edges;
    }

    void all() {
        terms();
        person();
        change();
        know();
        ask();
        personOf();
        knownOf();
    }

    private void terms() {
        e.terms();
        e.sentence("THE TOWN PEOPLE have numbers, 0 on, 7 at most: an HOUR at which they come to the yard (0 to 23), "
            + "a COST of an hour's waiting (0 to 9).");
        e.run("person(0, 0) = 0", "person(23, 9) = 1", "person(1, 1) = 2", "person(22, 8) = 3", "person(0, 9) = 4", "person(23, 0) = 5",
            "status(0) = 6", "person(12, 5) = 6", "status(0) = 7", "person(12, 5) = -6", "status(0) = 7", "personOf(6, 0) = 12",
            "personOf(7, 0) = -2");
        e.run("person(-1, 0) = -2", "person(24, 0) = -2", "person(0, -1) = -2", "person(0, 10) = -2", "status(0) = 0");
        e.sentence("Each two of them are STRANGERS (at first), or KNOWN to each other since so many YEARS (0 to 99).");
        e.run("crowd(7)", "status(3) = 21", "knownOf(0, 6) = -1", "knownOf(6, 5) = -1", "know(0, 6, 0) = -1", "knownOf(6, 0) = 0",
            "knownOf(0, 6) = 0", "know(6, 0, 99) = 0", "knownOf(0, 6) = 99", "status(3) = 20", "know(0, 6, 100) = -2", "know(0, 6, -2) = -2");
        e.sentence("SEATS: 2 to 4 (3 at first).");
        e.run("status(1) = 3", "ask(0, 4) = 3", "ask(0, 5) = -2", "status(1) = 4", "ask(0, 2) = 4", "ask(0, 1) = -2", "status(1) = 2");
        e.sentence("MEMORY: 0 to 99 (0 at first: nobody forgets).");
        e.run("status(2) = 0", "crowd(2)", "know(0, 1, 99)", "year() = 0", "knownOf(0, 1) = 99", "ask(1, 99) = 0", "ask(1, 100) = -2",
            "status(2) = 99", "ask(1, 0) = 99", "ask(1, -1) = -2", "status(2) = 0");
    }

    private void person() {
        e.promise(9);
        e.sentence("Somebody: the number.");
        e.run("person(0, 0) = 0", "personOf(0, 0) = 0", "personOf(0, 1) = 0", "person(23, 9) = 1", "personOf(1, 0) = 23", "personOf(1, 1) = 9",
            "knownOf(0, 1) = -1", "status(0) = 2", "status(3) = 1");
        e.sentence("BAD;");
        for (String bad : new String[] {"-1, 0", "24, 0", "0, -1", "0, 10", "MIN, 0", "MAX, 0", "0, MIN", "0, MAX", "24, 10"}) {
            e.run("person(3, 4)", "person(" + bad + ") = -2", "status(0) = 1");
            e.run("crowd(7)", "person(" + bad + ") = -2", "status(16) = 0");
        }
        e.sentence("FULL.");
        e.run("crowd(6)", "person(23, 9) = 6", "person(0, 0) = -6", "person(23, 9) = -6", "status(0) = 7", "status(16) = 2");
    }

    private void change() {
        e.promise(10);
        e.sentence("HOUR (what 0), COST (1) of one becomes v: what it was.");
        e.run("person(5, 6)", "person(7, 8)", "change(0, 0, 23) = 5", "change(0, 0, 0) = 23", "change(0, 1, 9) = 6", "change(0, 1, 0) = 9",
            "personOf(0, 0) = 0", "personOf(0, 1) = 0", "personOf(1, 0) = 7", "personOf(1, 1) = 8", "change(1, 0, 7) = 7");
        e.run("crowd(7)", "change(6, 0, 23) = 0", "change(6, 1, 9) = 1", "personOf(6, 0) = 23", "personOf(5, 0) = 0");
        e.sentence("BAD.");
        for (String bad : new String[] {"-1, 0, 0", "2, 0, 0", "7, 0, 0", "MIN, 0, 0", "MAX, 0, 0", "0, -1, 0", "0, 2, 0", "0, MIN, 0",
            "0, MAX, 0", "0, 0, -1", "0, 0, 24", "0, 0, MIN", "0, 0, MAX", "0, 1, -1", "0, 1, 10", "0, 1, 23", "0, 1, MIN", "0, 1, MAX"}) {
            e.run("person(5, 6)", "person(7, 8)", "change(" + bad + ") = -2", "personOf(0, 0) = 5", "personOf(0, 1) = 6");
        }
        e.run("change(0, 0, 0) = -2", "change(0, 1, 0) = -2");
        e.run("crowd(7)", "change(7, 0, 0) = -2");
    }

    private void know() {
        e.promise(11);
        e.sentence("Two are KNOWN to each other since so many YEARS (NONE: STRANGERS): as they were (NONE: STRANGERS).");
        e.run("crowd(3)", "know(0, 2, 0) = -1", "know(0, 2, 99) = 0", "know(2, 0, 1) = 99", "know(2, 0, -1) = 1", "know(0, 2, -1) = -1",
            "knownOf(0, 2) = -1", "knownOf(0, 1) = -1", "status(3) = 3");
        e.run("crowd(7)", "know(6, 5, 7) = -1", "know(5, 6, 8) = 7", "knownOf(6, 5) = 8", "status(3) = 20");
        e.sentence("BAD: also the same.");
        for (String bad : new String[] {"0, 0, 1", "2, 2, -1", "0, 3, 1", "3, 0, 1", "3, 3, 1", "-1, 0, 1", "0, -1, 1", "-1, -1, 1",
            "0, 1, 100", "0, 1, -2", "0, 1, MIN", "0, 1, MAX", "MIN, 0, 1", "0, MAX, 1", "MAX, MIN, 1"}) {
            e.run("crowd(3)", "know(0, 1, 5)", "know(" + bad + ") = -2", "knownOf(0, 1) = 5", "status(3) = 2");
        }
        e.run("know(0, 1, 0) = -2", "crowd(7)", "know(6, 7, 0) = -2");
        e.sentence("(NONE isn't refused.)");
        e.run("crowd(2)", "know(0, 1, -1) = -1", "know(1, 0, 4) = -1", "know(1, 0, -1) = 4", "status(12) = 0");
    }

    private void ask() {
        e.promise(12);
        e.sentence("SEATS (what 0), MEMORY (1) becomes v: what it was.");
        e.run("ask(0, 2) = 3", "ask(0, 4) = 2", "ask(0, 3) = 4", "status(1) = 3", "status(2) = 0", "ask(1, 99) = 0", "ask(1, 1) = 99",
            "ask(1, 0) = 1", "status(2) = 0", "status(1) = 3");
        e.run("crowd(4)", "isGroup(7) = 1", "ask(0, 4) = 3", "isGroup(7) = 0", "isGroup(15) = 1", "ask(0, 2) = 4", "isGroup(3) = 1");
        e.sentence("BAD.");
        for (String bad : new String[] {"0, 1", "0, 5", "0, 0", "0, -1", "0, MIN", "0, MAX", "1, -1", "1, 100", "1, MIN", "1, MAX", "-1, 3", "2, 3",
            "MIN, 3", "MAX, 3"}) {
            e.run("ask(0, 4)", "ask(1, 8)", "ask(" + bad + ") = -2", "status(1) = 4", "status(2) = 8");
        }
    }

    private void personOf() {
        String[] four = {"person(23, 9)", "person(0, 0)", "person(1, 1)", "person(1, 1)", "know(0, 2, 99)"};
        e.promise(16);
        e.sentence("Of one: HOUR (0), COST (1), STRANGERS (2, bits), MEETS (3).");
        e.run(ShelfEdges.and(four, "personOf(0, 0) = 23", "personOf(0, 1) = 9", "personOf(0, 2) = 2+8", "personOf(0, 3) = 2",
            "personOf(1, 0) = 0", "personOf(1, 1) = 0", "personOf(1, 2) = 1+4+8", "personOf(1, 3) = 3"));
        e.run("person(4, 5)", "personOf(0, 2) = 0", "personOf(0, 3) = 0");
        e.run("crowd(7)", "personOf(6, 2) = 63", "personOf(0, 2) = 126", "personOf(3, 3) = 6", "meet(127)", "personOf(6, 2) = 0",
            "personOf(3, 3) = 0");
        e.sentence("BAD.");
        for (String bad : new String[] {"-1, 0", "4, 0", "7, 0", "MIN, 0", "MAX, 0", "0, -1", "0, 4", "0, MIN", "0, MAX", "4, 4"}) {
            e.run(ShelfEdges.and(four, "personOf(" + bad + ") = -2"));
        }
        e.run("personOf(0, 0) = -2", "personOf(0, 3) = -2", "crowd(7)", "personOf(7, 0) = -2");
        e.terms();
        e.sentence("MEETS of one: how many STRANGERS.");
        e.run("crowd(1)", "personOf(0, 3) = 0", "person(0, 0)", "personOf(0, 3) = 1", "know(0, 1, 0)", "personOf(0, 3) = 0");
        e.run("crowd(7)", "personOf(0, 3) = 6", "know(0, 6, 99)", "personOf(0, 3) = 5", "personOf(6, 3) = 5", "personOf(5, 3) = 6");
    }

    private void knownOf() {
        e.promise(17);
        e.sentence("Since how many YEARS two are KNOWN to each other; NONE: STRANGERS.");
        e.run("crowd(3)", "know(0, 1, 0)", "know(2, 1, 99)", "knownOf(0, 1) = 0", "knownOf(1, 0) = 0", "knownOf(1, 2) = 99",
            "knownOf(2, 1) = 99", "knownOf(0, 2) = -1", "knownOf(2, 0) = -1");
        e.sentence("BAD: also the same.");
        for (String bad : new String[] {"0, 0", "2, 2", "0, 3", "3, 0", "3, 3", "-1, 0", "0, -1", "-1, -1", "MIN, 0", "0, MAX", "MAX, MIN", "7, 0"}) {
            e.run("crowd(3)", "know(0, 1, 5)", "knownOf(" + bad + ") = -2");
        }
        e.run("knownOf(0, 1) = -2", "crowd(1)", "knownOf(0, 1) = -2", "knownOf(0, 0) = -2");
        e.sentence("(NONE isn't refused.)");
        e.run("crowd(2)", "knownOf(0, 1) = -1", "knownOf(1, 0) = -1", "status(12) = 0");
    }
}
