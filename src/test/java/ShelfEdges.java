/** Edges of shelves, rows and coachmen: the "Terms" on them and promises 1 to 8. */
final class ShelfEdges {
    private final Edges e;

    ShelfEdges(Edges edges) {
        e = edges;
    }

    void all() {
        shelves();
        sorts();
        refusals();
        newObject();
        row();
        set();
        copy();
        copyRefused();
        element();
        holds();
        coachman();
        says();
        saysRefused();
    }

    private void shelves() {
        e.terms();
        e.sentence("SHELVES 0 to 7 hold NOTHING (at first), a ROW, or a COACHMAN.");
        e.run("holds(0) = -1", "holds(1) = -1", "holds(6) = -1", "holds(7) = -1", "status(9) = 0");
        e.run("row(0, 0, 1) = 1", "row(7, 4, 1) = 1", "row(-1, 0, 1) = -2", "row(8, 0, 1) = -2", "status(9) = 2");
        e.run("coachman(0, 1, 0) = 1", "coachman(7, 5, 9) = 1", "coachman(-1, 1, 0) = -2", "coachman(8, 1, 0) = -2", "status(9) = 2");
        e.run("row(3, 0, 1)", "coachman(3, 1, 0) = 1", "holds(3) = 11", "element(3, 0) = 0", "row(3, 1, 1) = 1", "holds(3) = 1",
            "run(3) = -3", "status(9) = 1");
        e.run("row(0, 0, 1)", "row(1, 0, 1)", "row(2, 0, 1)", "row(3, 0, 1)", "coachman(4, 1, 0)", "coachman(5, 1, 0)",
            "coachman(6, 1, 0)", "coachman(7, 1, 0)", "status(9) = 8", "row(8, 0, 0) = -2", "coachman(8, 1, 1) = -2");
    }

    private void sorts() {
        e.sentence("A ROW has a SORT (0 bytes, 1 shorts, 2 ints, 3 longs, 4 booleans) and 0 to 40 elements (0, or not so, at first);");
        for (int sort = 0; sort <= 4; sort++) {
            e.run("row(0, " + sort + ", 40) = 1", "holds(0) = " + sort, "element(0, 0) = 0", "element(0, 39) = 0", "set(0, 39, 1) = 1",
                "element(0, 39) = 1", "set(0, 40, 1) = -2", "row(0, " + sort + ", 40) = 1", "element(0, 39) = 0");
            e.run("row(0, " + sort + ", 0) = 1", "set(0, 0, 1) = -2", "element(0, 0) = 0");
            e.run("row(0, " + sort + ", -1) = -2", "row(0, " + sort + ", 41) = -2", "holds(0) = -1");
        }
        e.run("row(0, -1, 1) = -2", "row(0, 5, 1) = -2", "holds(0) = -1");
        e.sentence("what is put in keeps its lowest bits (of booleans: whether it is not 0);");
        kept(0, "127 127", "128 -128", "255 -1", "256 0", "-1 -1", "-128 -128", "-129 127", "-256 0", "HIGH -1", "LOW 0");
        kept(1, "32767 32767", "32768 -32768", "65535 -1", "65536 0", "-32768 -32768", "-32769 32767", "HIGH -1", "LOW 0");
        kept(2, "MAX MAX", "2147483648 MIN", "4294967295 -1", "4294967296 0", "MIN MIN", "-2147483649 MAX", "HIGH -1", "LOW 0");
        kept(3, "HIGH HIGH", "LOW LOW", "-1 -1", "4294967296 4294967296", "0 0");
        e.sentence("told they are numbers (1, 0).");
        kept(4, "0 0", "1 1", "2 1", "-1 1", "256 1", "65536 1", "4294967296 1", "HIGH 1", "LOW 1", "0 0");
    }

    /** Pairs of what is put into a row of a sort and what is told of it. */
    private void kept(int sort, String... pairs) {
        for (String pair : pairs) {
            String[] two = pair.split(" ");
            e.run("row(0, " + sort + ", 3)", "set(0, 1, " + two[0] + ") = 1", "element(0, 1) = " + two[1], "element(0, 0) = 0",
                "element(0, 2) = 0");
        }
    }

    private void refusals() {
        e.terms();
        e.sentence("REFUSALS (the call answers the number; nothing changes but how many there were; the first that fits as each line has them):");
        e.run("status(12) = 0", "status(13) = 0", "status(14) = 0", "status(15) = 0", "status(16) = 0", "run(8) = -2", "status(12) = 1",
            "run(8) = -2", "run(8) = -2", "status(12) = 3", "status(13) = 0");
        e.run("crowd(7)", "person(24, 0) = -2", "person(23, 10) = -2", "person(23, 9) = -6");
        e.run("coachman(0, 1, 0)", "judge(0, 8) = -2", "judge(0, 7) = -3", "row(0, 0, 6)", "judge(0, 7) = -2", "judge(0, 6) = 0");
        e.sentence("-2 BAD a number that may not be, nobody of that number.");
        e.run("crowd(2)", "personOf(1, 4) = -2", "personOf(2, 0) = -2", "personOf(-1, 0) = -2", "personOf(MIN, 0) = -2", "status(12) = 4");
        e.sentence("-3 OTHER: a SHELF that holds another thing than is wanted.");
        e.run("row(0, 0, 1)", "coachman(1, 1, 0)", "run(0) = -3", "set(1, 0, 0) = -3", "judge(1, 0) = -3", "says(0, 0) = -3", "status(13) = 4");
        e.sentence("-4 NOTHING: a SHELF that holds NOTHING.");
        e.run("run(0) = -4", "set(7, 0, 0) = -4", "judge(0, 0) = -4", "says(7, 0) = -4", "status(14) = 4");
        e.sentence("-5 STUCK: it can't be as things stand.");
        e.run("back() = -5", "head() = -5", "worst() = -5", "sure(0) = -5", "mostOf(0, 0) = -5", "status(15) = 5");
        e.sentence("-6 FULL.");
        e.run("crowd(7)", "person(0, 0) = -6", "person(23, 9) = -6", "status(16) = 2");
    }

    private void newObject() {
        e.promise(1);
        e.sentence("No PEOPLE;");
        e.run("status(0) = 0", "status(3) = 0", "personOf(0, 0) = -2", "knownOf(0, 1) = -2", "change(0, 0, 0) = -2", "isGroup(1) = -2",
            "isGroup(0) = 0", "person(5, 5) = 0");
        e.sentence("SHELVES hold NOTHING;");
        for (int s = 0; s < 8; s++) {
            e.run("status(9) = 0", "holds(" + s + ") = -1", "element(" + s + ", 0) = 0", "set(" + s + ", 0, 0) = -4", "run(" + s + ") = -4");
        }
        e.sentence("THE TAPE is empty.");
        e.run("status(7) = 0", "wipe() = 0", "feed(59) = 1");
        e.run("town() = -20");
        e.run("status(1) = 3", "status(2) = 0", "status(4) = 0", "status(5) = 0", "status(6) = 0", "status(8) = 1", "back() = -5");
    }

    private void row() {
        e.promise(2);
        e.sentence("SHELF s holds a new ROW: 1.");
        e.run("row(0, 0, 0) = 1", "holds(0) = 0", "row(7, 4, 40) = 1", "holds(7) = 4");
        e.run("row(2, 3, 2)", "set(2, 0, 8)", "set(2, 1, 9)", "row(2, 3, 2) = 1", "element(2, 0) = 0", "element(2, 1) = 0");
        e.run("row(2, 3, 2)", "set(2, 1, 9)", "row(2, 3, 1) = 1", "set(2, 1, 1) = -2", "row(2, 3, 2) = 1", "element(2, 1) = 0");
        e.run("coachman(2, 1, 0)", "row(2, 0, 1) = 1", "set(2, 0, 1) = 1", "days(2) = -3");
        e.sentence("BAD.");
        for (String bad : new String[] {"-1, 0, 1", "8, 0, 1", "MIN, 0, 1", "MAX, 0, 1", "0, -1, 1", "0, 5, 1", "0, MIN, 1", "0, MAX, 1",
            "0, 0, -1", "0, 0, 41", "0, 0, MIN", "0, 0, MAX", "256, 0, 1", "8, 5, 41"}) {
            e.run("row(0, 2, 3)", "set(0, 2, 77)", "row(" + bad + ") = -2", "element(0, 2) = 77", "holds(0) = 2");
        }
    }

    private void set() {
        e.promise(3);
        e.sentence("Element i of the ROW in SHELF s becomes v: 1.");
        e.run("row(0, 3, 3)", "set(0, 0, 5) = 1", "set(0, 2, -6) = 1", "element(0, 0) = 5", "element(0, 1) = 0", "element(0, 2) = -6",
            "set(0, 0, 0) = 1", "element(0, 0) = 0");
        e.run("row(7, 3, 40)", "set(7, 39, LOW) = 1", "element(7, 39) = LOW");
        e.sentence("BAD SHELF;");
        for (String bad : new String[] {"-1", "8", "MIN", "MAX"}) {
            e.run("row(0, 3, 3)", "row(7, 3, 3)", "set(" + bad + ", 0, 5) = -2", "set(" + bad + ", 3, 5) = -2");
        }
        e.sentence("OTHER;");
        e.run("coachman(7, 4, 3)", "set(7, 0, 1) = -3", "set(7, -1, 1) = -3", "set(7, 40, 1) = -3", "says(7, 0) = 3");
        e.sentence("NOTHING;");
        e.run("set(0, 0, 1) = -4", "set(0, -1, 1) = -4", "set(0, 40, 1) = -4", "holds(0) = -1");
        e.sentence("BAD i.");
        e.run("row(0, 3, 3)", "set(0, 3, 5) = -2", "set(0, -1, 5) = -2", "set(0, MIN, 5) = -2", "set(0, MAX, 5) = -2");
        e.run("row(0, 3, 0)", "set(0, 0, 5) = -2");
        e.run("row(0, 3, 40)", "set(0, 40, 5) = -2");
    }

    private void copy() {
        e.promise(4);
        e.sentence("n elements of the ROW in SHELF p from place i on come to places j on of that in q (as they were): n.");
        String[] rows = {"row(0, 1, 5)", "set(0, 0, 1)", "set(0, 1, 2)", "set(0, 2, 3)", "set(0, 3, 4)", "set(0, 4, 5)", "row(7, 1, 3)",
            "set(7, 0, 7)", "set(7, 1, 8)", "set(7, 2, 9)"};
        e.run(and(rows, "copy(0, 7, 0, 0, 3) = 3", "element(7, 0) = 1", "element(7, 1) = 2", "element(7, 2) = 3", "element(0, 0) = 1"));
        e.run(and(rows, "copy(0, 7, 4, 2, 1) = 1", "element(7, 0) = 7", "element(7, 1) = 8", "element(7, 2) = 5"));
        e.run(and(rows, "copy(7, 0, 0, 2, 3) = 3", "element(0, 1) = 2", "element(0, 2) = 7", "element(0, 4) = 9"));
        e.run(and(rows, "copy(0, 0, 0, 1, 4) = 4", "element(0, 0) = 1", "element(0, 1) = 1", "element(0, 2) = 2", "element(0, 4) = 4"));
        e.run(and(rows, "copy(0, 0, 1, 0, 4) = 4", "element(0, 0) = 2", "element(0, 3) = 5", "element(0, 4) = 5"));
        e.run(and(rows, "copy(0, 0, 0, 0, 5) = 5", "element(0, 0) = 1", "element(0, 4) = 5"));
        e.run(and(rows, "copy(0, 7, 0, 0, 0) = 0", "copy(0, 7, 5, 3, 0) = 0", "element(7, 0) = 7", "element(7, 2) = 9"));
        e.run("row(0, 3, 0)", "row(1, 3, 0)", "copy(0, 1, 0, 0, 0) = 0", "copy(0, 1, 0, 0, 1) = -2");
        e.run("row(0, 3, 40)", "row(1, 3, 40)", "set(0, 39, LOW)", "copy(0, 1, 0, 0, 40) = 40", "element(1, 39) = LOW");
        for (int sort = 0; sort <= 4; sort++) {
            e.run("row(0, " + sort + ", 1)", "row(1, " + sort + ", 1)", "set(0, 0, 1)", "copy(0, 1, 0, 0, 1) = 1", "element(1, 0) = 1");
        }
    }

    private void copyRefused() {
        String[] rows = {"row(0, 1, 5)", "set(0, 4, 4)", "row(1, 1, 3)", "row(2, 2, 5)", "coachman(3, 1, 1)"};
        e.sentence("BAD SHELVES;");
        e.run(and(rows, "copy(-1, 1, 0, 0, 1) = -2", "copy(8, 1, 0, 0, 1) = -2", "copy(0, -1, 0, 0, 1) = -2", "copy(0, 8, 0, 0, 1) = -2"));
        e.run(and(rows, "copy(3, 8, 0, 0, 1) = -2", "copy(8, 3, 0, 0, 1) = -2", "copy(7, 8, 0, 0, 1) = -2", "copy(MIN, MAX, 0, 0, 1) = -2"));
        e.sentence("OTHER (also ROWS of two SORTS, if both hold something);");
        e.run(and(rows, "copy(3, 1, 0, 0, 1) = -3", "copy(1, 3, 0, 0, 1) = -3", "copy(3, 3, 0, 0, 1) = -3"));
        e.run(and(rows, "copy(3, 7, 0, 0, 1) = -3", "copy(7, 3, 0, 0, 1) = -3", "copy(3, 1, -1, 0, 1) = -3"));
        e.run(and(rows, "copy(0, 2, 0, 0, 1) = -3", "copy(2, 0, 0, 0, 1) = -3", "copy(2, 0, -1, -1, -1) = -3", "copy(2, 0, 0, 0, 0) = -3"));
        for (int p = 0; p <= 4; p++) {
            for (int q = 0; q <= 4; q++) {
                e.run("row(0, " + p + ", 1)", "row(1, " + q + ", 1)", "copy(0, 1, 0, 0, 1) = " + (p == q ? 1 : -3));
            }
        }
        e.sentence("NOTHING;");
        e.run(and(rows, "copy(7, 0, 0, 0, 1) = -4", "copy(0, 7, 0, 0, 1) = -4", "copy(7, 7, 0, 0, 1) = -4", "copy(6, 7, -1, 9, 41) = -4"));
        e.sentence("BAD the others.");
        for (String bad : new String[] {"-1, 0, 1", "0, -1, 1", "0, 0, -1", "0, 0, 4", "3, 0, 3", "0, 1, 3", "5, 0, 1", "0, 3, 1", "6, 0, 0",
            "0, 4, 0", "-1, 0, 0", "0, -1, 0", "MAX, 0, 1", "0, MAX, 1", "MAX, MAX, 2", "0, 0, MAX", "1, 1, MAX", "MIN, 0, 1", "0, MIN, 1",
            "0, 0, MIN", "MIN, MIN, MIN", "MAX, MAX, MAX", "1, 0, MAX", "MIN, 0, MAX"}) {
            e.run(and(rows, "copy(0, 1, " + bad + ") = -2"));
        }
    }

    static String[] and(String[] begin, String... more) {
        String[] all = java.util.Arrays.copyOf(begin, begin.length + more.length);
        System.arraycopy(more, 0, all, begin.length, more.length);
        return all;
    }

    private void element() {
        e.promise(5);
        e.sentence("Element i of the ROW;");
        e.run("row(0, 3, 40)", "set(0, 0, HIGH)", "set(0, 39, LOW)", "element(0, 0) = HIGH", "element(0, 39) = LOW", "element(0, 1) = 0");
        e.run("row(7, 0, 1)", "set(7, 0, -3)", "element(7, 0) = -3", "status(13) = 0");
        e.sentence("0: none, no ROW (nothing is refused).");
        e.run("row(0, 3, 2)", "set(0, 0, 8)", "set(0, 1, 9)", "element(0, 2) = 0", "element(0, -1) = 0", "element(0, MAX) = 0",
            "element(0, MIN) = 0", "element(-1, 0) = 0", "element(8, 0) = 0", "element(MIN, 0) = 0", "element(MAX, 0) = 0",
            "element(1, 0) = 0", "coachman(1, 3, 7)", "element(1, 0) = 0", "status(12) = 0", "status(13) = 0", "status(14) = 0");
        e.run("row(0, 3, 40)", "set(0, 39, 5)", "element(0, 40) = 0", "row(0, 3, 39)", "element(0, 39) = 0", "coachman(0, 1, 0)",
            "element(0, 0) = 0");
    }

    private void holds() {
        e.promise(6);
        e.sentence("What SHELF s holds: NONE NOTHING, no SHELF;");
        e.run("holds(0) = -1", "holds(7) = -1", "holds(-1) = -1", "holds(8) = -1", "holds(MIN) = -1", "holds(MAX) = -1", "status(12) = 0",
            "status(14) = 0");
        e.sentence("0 to 4 a ROW by its SORT;");
        e.run("row(0, 0, 0)", "row(1, 1, 1)", "row(2, 2, 0)", "row(3, 3, 0)", "row(7, 4, 40)", "holds(0) = 0", "holds(1) = 1", "holds(2) = 2",
            "holds(3) = 3", "holds(7) = 4");
        e.sentence("10 and the KIND of a COACHMAN.");
        e.run("coachman(0, 1, 0)", "coachman(1, 2, 0)", "coachman(2, 3, 0)", "coachman(3, 4, 9)", "coachman(7, 5, 0)", "holds(0) = 11",
            "holds(1) = 12", "holds(2) = 13", "holds(3) = 14", "holds(7) = 15");
    }

    private void coachman() {
        e.promise(7);
        e.sentence("SHELF s holds a COACHMAN of a KIND (1 to 5): 1.");
        e.run("coachman(0, 1, 0) = 1", "says(0, 0) = 0", "coachman(7, 5, 9) = 1", "says(7, 0) = 9", "holds(0) = 11", "holds(7) = 15");
        e.run("coachman(0, 1, 4) = 1", "coachman(0, 2, 5) = 1", "holds(0) = 12", "says(0, 0) = 5", "says(0, 1) = -3", "status(9) = 1");
        e.run("row(0, 0, 3)", "coachman(0, 1, 4) = 1", "set(0, 0, 0) = -3", "judge(0, 0) = -3");
        e.sentence("BAD.");
        for (String bad : new String[] {"-1, 1, 0", "8, 1, 0", "MIN, 1, 0", "MAX, 1, 0", "0, 0, 0", "0, 6, 0", "0, -1, 0", "0, MIN, 0",
            "0, MAX, 0", "0, 1, -1", "0, 1, 10", "0, 1, MIN", "0, 1, MAX", "8, 6, 10"}) {
            e.run("coachman(0, 3, 4)", "coachman(" + bad + ") = -2", "holds(0) = 13", "says(0, 0) = 4");
            e.run("row(0, 3, 4)", "coachman(" + bad + ") = -2", "holds(0) = 3");
        }
    }

    private void says() {
        e.promise(8);
        e.sentence("What the COACHMAN in SHELF s, taken for one of a KIND, says: COACHMAN his a;");
        for (int kind = 1; kind <= 5; kind++) {
            e.run("coachman(0, " + kind + ", 0)", "says(0, 0) = 0", "coachman(0, " + kind + ", 9)", "says(0, 0) = 9");
        }
        e.sentence("others the GROUP they'd send (by their own KIND) with all PEOPLE in the yard and nobody to come (0: none).");
        // two known to 0 each, so that 0 has the fewest strangers; 3 and 4 are the dearest
        String[] five = {"person(1, 1)", "person(2, 2)", "person(3, 3)", "person(4, 9)", "person(5, 9)", "ask(0, 2)", "know(0, 1, 0)",
            "know(0, 2, 0)", "know(0, 3, 0)", "coachman(1, 1, 0)", "coachman(2, 2, 0)", "coachman(3, 3, 9)", "coachman(4, 4, 0)",
            "coachman(5, 5, 0)"};
        e.run(and(five, "says(1, 1) = 1+16", "says(3, 3) = 1+16", "says(3, 1) = 1+16", "says(2, 2) = 8+16", "says(4, 4) = 1+16",
            "says(4, 2) = 1+16", "says(5, 5) = 1+16", "says(5, 2) = 1+16"));
        e.run(and(five, "know(0, 4, 0)", "know(1, 2, 0)", "know(1, 3, 0)", "know(2, 4, 0)", "says(1, 1) = 2+16", "says(2, 2) = 8+16",
            "says(3, 1) = 2+16", "says(4, 2) = 2+16", "says(5, 2) = 2+16"));
        e.run("coachman(1, 1, 0)", "coachman(2, 2, 0)", "coachman(3, 3, 9)", "coachman(4, 4, 0)", "coachman(5, 5, 0)", "says(1, 1) = 0",
            "says(2, 2) = 0", "says(3, 3) = 0", "says(4, 4) = 0", "says(5, 5) = 0", "crowd(2)", "says(1, 1) = 0", "says(2, 2) = 0",
            "says(3, 3) = 0", "says(4, 4) = 0", "says(5, 5) = 0", "person(0, 0)", "says(1, 1) = 7", "says(2, 2) = 7", "says(3, 3) = 7",
            "says(4, 4) = 7", "says(5, 5) = 7");
        e.run("crowd(7)", "coachman(3, 3, 9)", "says(3, 3) = 7", "says(3, 1) = 7");
    }

    private void saysRefused() {
        String[] men = {"crowd(3)", "coachman(1, 1, 1)", "coachman(2, 2, 2)", "coachman(3, 3, 3)", "coachman(4, 4, 4)", "coachman(5, 5, 5)",
            "row(6, 0, 1)"};
        e.sentence("BAD SHELF, KIND;");
        e.run(and(men, "says(-1, 0) = -2", "says(8, 0) = -2", "says(MIN, 0) = -2", "says(MAX, 0) = -2", "says(1, -1) = -2", "says(1, 6) = -2",
            "says(1, MIN) = -2", "says(1, MAX) = -2", "says(6, 6) = -2", "says(7, 6) = -2", "says(6, -1) = -2", "says(7, -1) = -2"));
        e.sentence("OTHER (also if he is of no such KIND nor of one under it);");
        int[] above = {0, 0, 0, 1, 2, 2};
        for (int own = 1; own <= 5; own++) {
            for (int kind = 0; kind <= 5; kind++) {
                boolean isOf = kind == 0 || kind == own || kind == above[own];
                e.run(and(men, "says(" + own + ", " + kind + ") = " + (!isOf ? -3 : kind == 0 ? own : 7)));
            }
        }
        e.run(and(men, "says(6, 0) = -3", "says(6, 1) = -3", "says(6, 5) = -3"));
        e.sentence("NOTHING.");
        e.run(and(men, "says(0, 0) = -4", "says(7, 0) = -4", "says(7, 5) = -4"));
    }
}
