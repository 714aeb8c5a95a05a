import java.util.ArrayList;
import java.util.List;

/** Edges of the tape and of towns read from it: the "Terms" on them and promises 13 to 15. */
final class TapeEdges {
    private final Edges e;

    TapeEdges(Edges edges) {
        e = edges;
    }

    void all() {
        tape();
        tokens();
        bytes();
        statements();
        persons();
        pairs();
        numbers();
        met();
        peopleByThen();
        allOrNothing();
        faults();
        noRoom();
        tooEarly();
        feed();
        wipe();
        town();
    }

    /** A text is read by a new object with so many people, then these steps. */
    private void reads(int people, String text, int answer, String... more) {
        String[] begin = {"crowd(" + people + ")", "\"" + text + "\"", "town() = " + answer, "status(7) = 0"};
        e.run(ShelfEdges.and(begin, more));
    }

    private void fault(int people, String text, int place) {
        reads(people, text, -20 - place, "status(0) = " + people, "status(12) = 1");
    }

    private void tape() {
        e.terms();
        e.sentence("A TOWN is read from THE TAPE (bytes, 250 at most).");
        String longest = "memory 5;seats 2" + ";memory 4".repeat(26);
        reads(0, longest, 28, "status(1) = 2", "status(2) = 4");
        reads(0, longest.substring(0, 249) + " ", -270);
        reads(0, longest.substring(0, 241) + "        ", 27, "status(1) = 2", "status(2) = 4");
        e.run("\"" + longest + "\"", "feed(59) = -6", "status(7) = 250", "status(16) = 1", "wipe() = 250");
        e.run("\"" + " ".repeat(249) + "\"", "feed(32) = 250", "feed(32) = -6");
        reads(0, "met0;".repeat(50), -23, "status(12) = 1");
        reads(1, "met0;".repeat(49) + "met0 ", 50);
        reads(1, "met0;".repeat(50), -270);
        reads(0, " ".repeat(250), -270);
        reads(0, " ".repeat(249) + ";", -20 - 249);
    }

    private void tokens() {
        e.sentence("TOKENS, each as long as can be: WORDS (a .. z), NUMBERS (digits), the SIGN ;");
        reads(0, "person12 3", 1, "personOf(0, 0) = 12", "personOf(0, 1) = 3");
        reads(0, "seats2;memory99;person0 0", 3, "status(1) = 2", "status(2) = 99", "status(0) = 1");
        reads(2, "know0 1since5", 1, "knownOf(0, 1) = 5");
        reads(2, "know 01 00 since 05", 1, "knownOf(0, 1) = 5");
        fault(0, "person123", 6);
        fault(0, "person 1 234", 9);
        fault(0, "person 12", 9);
        fault(2, "know 01", 7);
        fault(2, "know 010", 5);
        fault(2, "know 0 1since", 13);
        fault(2, "knowmet 0 1", 0);
        fault(2, "know 0 1 sinceb 5", 9);
        fault(0, "seats3person 1 1", 6);
        fault(0, "per son 1 1", 0);
        fault(2, "know 0 1 si nce 5", 9);
        fault(0, "seats 0 3", 6);
        reads(0, "memory 0 5", -29);
        e.sentence("- blanks (32) may stand anywhere between.");
        reads(0, " seats 2", 1, "status(1) = 2");
        reads(0, "seats 2 ", 1, "status(1) = 2");
        reads(0, "   seats    2   ;   memory   7   ", 2, "status(1) = 2", "status(2) = 7");
        reads(0, "person 1 2;person 3 4", 2, "personOf(1, 0) = 3");
        reads(3, "met 0  1   2", 1, "status(3) = 0");
        reads(3, "  know  0  1  since  4  ", 1, "knownOf(0, 1) = 4");
    }

    /** Every byte in the place of a blank, a digit, a letter and at the end. */
    private void bytes() {
        for (int b = 0; b < 256; b++) {
            boolean isLetter = b >= 'a' && b <= 'z';
            boolean isDigit = b >= '0' && b <= '9';
            int between = b == ' ' || b == '0' ? 1 : isLetter ? -20 : isDigit ? -25 : -25;
            e.run("\"seats\"", "feed(" + b + ") = 6", "feed(51) = 7", "town() = " + between);
            int number = b >= '2' && b <= '4' ? 1 : -26;
            e.run("\"seats \"", "feed(" + b + ") = 7", "town() = " + (b == ' ' ? -27 : number));
            int atEnd = b == ' ' ? 1 : b == ';' ? -28 : isDigit ? -26 : -27;
            e.run("\"seats 3\"", "feed(" + b + ") = 8", "town() = " + atEnd);
            int atBegin = b == ' ' ? 1 : -20;
            e.run("feed(" + b + ") = 1", "\"seats 3\"", "town() = " + atBegin);
            inWord(b, "", 's', "eats 3");
            inWord(b, "se", 'a', "ts 3");
            inWord(b, "seat", 's', " 3");
        }
    }

    /** A byte in a word, in the place of the only one that makes it a word of a town. */
    private void inWord(int b, String ahead, char right, String behind) {
        int place = b == ' ' && ahead.isEmpty() ? 1 : 0;
        e.run("\"" + ahead + "\"", "feed(" + b + ")", "\"" + behind + "\"", "town() = " + (b == right ? 1 : -20 - place));
    }

    private void statements() {
        e.sentence("STATEMENTS, one or more, with ; between:");
        reads(0, "seats 2", 1);
        reads(0, "seats 2;seats 4;seats 3", 3);
        fault(0, "", 0);
        fault(0, " ", 1);
        fault(0, ";", 0);
        fault(0, " ;", 1);
        fault(0, "seats 2;", 8);
        fault(0, "seats 2; ", 9);
        fault(0, ";seats 2", 0);
        fault(0, "seats 2;;seats 2", 8);
        fault(0, "seats 2; ;seats 2", 9);
        fault(0, "seats 2 seats 2", 8);
        fault(0, "seats 2 memory 2", 8);
        fault(0, "town", 0);
        fault(0, "2", 0);
        fault(2, "since 2", 0);
        fault(0, "seats 2;x", 8);
        fault(0, "seats 2;3", 8);
    }

    private void persons() {
        e.sentence("person H C;");
        reads(0, "person 0 0", 1, "status(0) = 1", "personOf(0, 0) = 0", "personOf(0, 1) = 0");
        reads(0, "person 23 9", 1, "personOf(0, 0) = 23", "personOf(0, 1) = 9");
        reads(1, "person 00 09", 1, "personOf(1, 0) = 0", "personOf(1, 1) = 9", "knownOf(0, 1) = -1");
        fault(0, "person 24 0", 7);
        fault(0, "person 99 0", 7);
        fault(0, "person 0 10", 9);
        fault(0, "person 0 99", 9);
        fault(0, "person 000 0", 7);
        fault(0, "person 0 000", 9);
        fault(0, "person", 6);
        fault(0, "person 0", 8);
        fault(0, "person ;", 7);
        fault(0, "person 0;", 8);
        fault(0, "person 0 0 0", 11);
        fault(0, "person x 0", 7);
        fault(0, "person 0 x", 9);
        fault(0, "person -1 0", 7);
    }

    private void pairs() {
        e.sentence("know P Q, perhaps since N (YEARS; 0);");
        reads(3, "know 0 2", 1, "knownOf(0, 2) = 0", "knownOf(2, 0) = 0", "status(3) = 2");
        reads(3, "know 2 0 since 0", 1, "knownOf(0, 2) = 0");
        reads(3, "know 2 0 since 99", 1, "knownOf(0, 2) = 99");
        reads(3, "know 2 0 since 9;know 0 2", 2, "knownOf(0, 2) = 0");
        fault(3, "know 2 0 since 100", 15);
        fault(3, "know 2 0 since 099", 15);
        fault(3, "know 2 0 since", 14);
        fault(3, "know 2 0 since;", 14);
        fault(3, "know 2 0 since since", 15);
        fault(3, "know 2 0 since 1 since 2", 17);
        fault(3, "know 2 0 5", 9);
        fault(3, "know 2 0 until 5", 9);
        fault(3, "know 2", 6);
        fault(3, "know", 4);
        fault(3, "know 2 since 5", 7);
        fault(3, "know 0 1 2", 9);
        e.sentence("strange P Q;");
        reads(3, "know 0 2 since 9;strange 2 0", 2, "knownOf(0, 2) = -1", "status(3) = 3");
        reads(3, "strange 0 2", 1, "status(3) = 3");
        fault(3, "strange 0 2 since 3", 12);
        fault(3, "strange 0 1 2", 12);
        fault(3, "strange 0", 9);
        fault(3, "strange", 7);
        fault(3, "strange 0 3", 10);
    }

    private void numbers() {
        e.sentence("seats N; memory N;");
        reads(0, "seats 2", 1, "status(1) = 2");
        reads(0, "seats 04", 1, "status(1) = 4");
        fault(0, "seats 1", 6);
        fault(0, "seats 5", 6);
        fault(0, "seats 0", 6);
        fault(0, "seats 003", 6);
        fault(0, "seats 99", 6);
        fault(0, "seats", 5);
        fault(0, "seats ", 6);
        fault(0, "seats ;", 6);
        fault(0, "seats 2 2", 8);
        reads(0, "memory 0", 1, "status(2) = 0");
        reads(0, "memory 99", 1, "status(2) = 99");
        reads(0, "memory 00", 1, "status(2) = 0");
        fault(0, "memory 100", 7);
        fault(0, "memory 000", 7);
        fault(0, "memory", 6);
        fault(0, "memory ;", 7);
        fault(0, "memory 9 9", 9);
    }

    private void met() {
        e.sentence("met P, perhaps Q, perhaps R, and so on (PEOPLE, each once: all of these are KNOWN to each other since 0 YEARS then).");
        reads(7, "met 3", 1, "status(3) = 21");
        reads(7, "met 6 0", 1, "status(3) = 20", "knownOf(0, 6) = 0");
        reads(7, "met 6 0 3", 1, "status(3) = 18", "knownOf(0, 3) = 0", "knownOf(6, 3) = 0", "knownOf(0, 1) = -1");
        reads(7, "met 6 5 4 3 2 1 0", 1, "status(3) = 0", "knownOf(3, 2) = 0");
        reads(3, "know 0 1 since 50;met 0 1", 2, "knownOf(0, 1) = 0");
        reads(3, "met 00 01", 1, "knownOf(0, 1) = 0");
        fault(7, "met", 3);
        fault(7, "met ;", 4);
        fault(7, "met 0 0", 6);
        fault(7, "met 0 1 2 3 4 5 6 0", 18);
        fault(7, "met 0 1 2 3 4 5 6 6", 18);
        fault(7, "met 0 1 2 3 4 5 6 7", 18);
        fault(7, "met 7", 4);
        fault(7, "met 0 1 01", 8);
        fault(7, "met 0 10", 6);
        fault(7, "met 0 001", 6);
        fault(7, "met 0 99", 6);
        fault(7, "met 0 32", 6);
        fault(7, "met 0 33", 6);
        fault(7, "met 0 64", 6);
        fault(7, "met 0 x", 6);
        fault(7, "met 0 met", 6);
        fault(7, "met 0 1;", 8);
        fault(0, "met 0", 4);
    }

    private void peopleByThen() {
        e.sentence("P, Q: PEOPLE there are by then, unlike.");
        reads(0, "person 1 1;person 2 2;know 0 1", 3, "knownOf(0, 1) = 0");
        reads(1, "person 1 1;know 0 1 since 3;strange 1 0;met 0 1", 4, "knownOf(0, 1) = 0");
        fault(1, "know 0 1;person 1 1", 7);
        fault(1, "know 1 0;person 1 1", 5);
        fault(1, "strange 0 1;person 1 1", 10);
        fault(1, "met 0 1;person 1 1", 6);
        fault(0, "know 0 1", 5);
        fault(0, "strange 0 1", 8);
        fault(1, "know 0 0", 7);
        fault(1, "know 0 00", 7);
        fault(7, "know 6 6", 7);
        fault(7, "know 6 7", 7);
        fault(7, "know 7 6", 5);
        fault(7, "strange 6 6", 10);
        fault(7, "know 33 0", 5);
        fault(7, "know 0 32", 7);
    }

    private void allOrNothing() {
        e.sentence("All comes to what there is, or nothing.");
        reads(2, "person 5 6;seats 2;memory 3;know 0 2 since 4;met 0 1", 5, "status(0) = 3", "personOf(2, 0) = 5", "status(1) = 2",
            "status(2) = 3", "knownOf(0, 2) = 4", "knownOf(0, 1) = 0", "knownOf(1, 2) = -1");
        reads(2, "person 5 6;seats 2;memory 3;know 0 2 since 4;met 0 1;", -20 - 53, "status(0) = 2", "status(1) = 3", "status(2) = 0",
            "knownOf(0, 1) = -1");
        reads(2, "seats 2;seats 9", -20 - 14, "status(1) = 3");
        reads(2, "memory 2;x", -20 - 9, "status(2) = 0");
        reads(2, "know 0 1;strange 0 1;x", -20 - 21, "knownOf(0, 1) = -1");
        e.run("crowd(2)", "know(0, 1, 7)", "\"strange 0 1;met 0 1;met 2\"", "town() = -44", "knownOf(0, 1) = 7");
        e.run("crowd(2)", "know(0, 1, 7)", "ask(1, 9)", "seed(5)", "\"seats 4\"", "town() = 1", "knownOf(0, 1) = 7", "status(2) = 9",
            "status(8) = 5", "status(0) = 2", "status(1) = 4");
    }

    private void faults() {
        e.sentence("The FAULT: the place of the first byte of the first TOKEN that can't stand there (also a NUMBER that may not be, "
            + "or has more than 2 digits; one told twice of met;");
        fault(2, "x", 0);
        fault(2, "   x", 3);
        fault(2, "seats 9;x", 6);
        fault(2, "know 0 0;x", 7);
        fault(2, "  know  0   1   2", 16);
        fault(2, "memory 123", 7);
        fault(2, "memory  0123456789", 8);
        fault(2, "met 0 1 0 5", 8);
        fault(2, "met 1 1", 6);
        fault(2, "seats 3;" + "memory 1;".repeat(20) + "met 0 0", 8 + 180 + 6);
    }

    private void noRoom() {
        e.sentence("what there is no room for: its word;");
        fault(7, "person 1 1", 0);
        fault(7, "  person 1 1", 2);
        fault(7, "seats 2;person 1 1", 8);
        fault(7, "person", 0);
        fault(7, "person 99", 0);
        fault(7, "person x", 0);
        fault(6, "person 1 1;person 1 1", 11);
        fault(6, "person 1 1 person 1 1", 11);
        reads(6, "person 1 1", 1, "status(0) = 7", "status(16) = 0");
        String person = "person 1 1;";
        reads(0, person.repeat(6) + "person 1 1", 7, "status(0) = 7");
        fault(0, person.repeat(7) + "person 1 1", 77);
        reads(7, "person 1 1", -20, "status(12) = 1", "status(16) = 0");
        e.sentence("a byte that begins none);");
        fault(0, "Seats 2", 0);
        fault(0, "seats 2.", 7);
        fault(0, "seats,2", 5);
        fault(0, "seats 2 ,", 8);
        fault(0, ",", 0);
        e.run("\"seats 2\"", "feed(0)", "town() = -27");
        e.run("\"seats 2\"", "feed(255)", "town() = -27");
        e.run("\"seats 2\"", "feed(9)", "town() = -27");
        e.run("\"seats 2\"", "feed(10)", "town() = -27");
        e.run("feed(0)", "town() = -20");
        e.run("feed(255)", "town() = -20");
    }

    private void tooEarly() {
        e.sentence("THE TAPE's size, if it ends too early.");
        fault(2, "", 0);
        fault(2, "    ", 4);
        fault(2, "know", 4);
        fault(2, "know ", 5);
        fault(2, "know 0", 6);
        fault(2, "know 0  ", 8);
        fault(2, "know 0 1 since", 14);
        fault(2, "know 0 1 since  ", 16);
        fault(2, "met", 3);
        fault(2, "met  ", 5);
        fault(2, "strange 1 ", 10);
        fault(2, "memory ", 7);
        fault(2, "person 1", 8);
        fault(2, "know 0 1;", 9);
        fault(2, "know 0 1 ; ", 11);
        fault(2, "seats 3;" + " ".repeat(242), 250);
    }

    private void feed() {
        e.promise(13);
        e.sentence("THE TAPE gets one byte (0 to 255) behind it: its size.");
        e.run("feed(0) = 1", "feed(255) = 2", "feed(128) = 3", "status(7) = 3");
        List<String> full = new ArrayList<>();
        for (int i = 1; i <= 250; i++) {
            full.add("feed(" + (i % 256) + ") = " + i);
        }
        e.run(full.toArray(new String[0]));
        e.sentence("BAD;");
        for (String bad : new String[] {"-1", "256", "MIN", "MAX", "-128", "-256", "65536"}) {
            e.run("feed(59)", "feed(" + bad + ") = -2", "status(7) = 1");
        }
        e.run("\"" + " ".repeat(250) + "\"", "feed(256) = -2", "feed(-1) = -2", "status(16) = 0");
        e.sentence("FULL.");
        e.run("\"" + " ".repeat(249) + "\"", "feed(0) = 250", "feed(0) = -6", "feed(255) = -6", "status(7) = 250", "status(16) = 2");
        e.run("\"" + " ".repeat(250) + "\"", "feed(1) = -6", "wipe() = 250", "feed(1) = 1");
        e.run("\"" + " ".repeat(250) + "\"", "feed(1) = -6", "town() = -270", "feed(1) = 1");
    }

    private void wipe() {
        e.promise(14);
        e.sentence("THE TAPE is empty: its size ahead.");
        e.run("wipe() = 0", "wipe() = 0", "feed(1) = 1", "wipe() = 1", "wipe() = 0", "status(7) = 0");
        e.run("\"" + " ".repeat(250) + "\"", "wipe() = 250", "status(7) = 0", "wipe() = 0");
        e.run("\"seats 4;\"", "wipe() = 8", "\"seats 2\"", "status(7) = 7", "town() = 1", "status(1) = 2");
        e.run("\"seats 2;seats 3;x\"", "wipe() = 17", "\"seats 4\"", "town() = 1", "status(1) = 4");
        e.run("crowd(2)", "\"x\"", "wipe() = 1", "status(0) = 2", "status(12) = 0");
    }

    private void town() {
        e.promise(15);
        e.sentence("THE TAPE is a TOWN: how many STATEMENTS;");
        reads(0, "seats 3", 1);
        reads(0, "person 1 2;person 3 4;know 0 1;strange 0 1;met 0;seats 2;memory 1", 7);
        reads(1, "met0;".repeat(49) + "met0", 50);
        e.sentence("-20 less the FAULT (that is refused, too: BAD).");
        e.run("town() = -20", "status(12) = 1", "town() = -20", "status(12) = 2");
        e.run("\" x\"", "town() = -21", "status(12) = 1", "\"  x\"", "town() = -22", "status(12) = 2", "status(16) = 0");
        e.run("\"" + " ".repeat(250) + "\"", "town() = -270", "status(12) = 1");
        e.sentence("THE TAPE is empty then, either way.");
        e.run("\"seats 2\"", "town() = 1", "status(7) = 0", "wipe() = 0", "town() = -20");
        e.run("\"seats 9\"", "town() = -26", "status(7) = 0", "wipe() = 0", "\"seats 2\"", "town() = 1");
        e.run("\"" + " ".repeat(250) + "\"", "town() = -270", "feed(59) = 1", "town() = -20");
    }
}
