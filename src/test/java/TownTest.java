/** Promises 9 to 17 and 42 to 48: people, knowledge, the tape, draws, years, images and status. */
public final class TownTest {
    private static final Check CHECK = new Check("TownTest");

    public static void main(String[] args) {
        person();
        change();
        know();
        ask();
        feedAndWipe();
        townRead();
        townTokens();
        townFaults();
        townFull();
        personOf();
        knownOf();
        meet();
        year();
        come();
        comeByHand();
        seed();
        imageAndBack();
        status();
        CHECK.end();
    }

    private static void person() {
        CHECK.promise(9);
        ThreeStrangers x = new ThreeStrangers();
        int[][] bad = {{-1, 0}, {24, 0}, {0, -1}, {0, 10}};
        for (int[] b : bad) {
            CHECK.due("person, bad", x.person(b[0], b[1]), -2);
        }
        for (int i = 0; i < 7; i++) {
            CHECK.due("person", x.person(23, 9), i);
        }
        CHECK.due("full", x.person(0, 0), -6);
        CHECK.due("bad, ahead of full", x.person(24, 0), -2);
        CHECK.due("people", x.status(0), 7);
        CHECK.due("strangers at first", x.status(3), 21);
        CHECK.due("refused -6", x.status(16), 1);
        CHECK.due("refused -2", x.status(12), 5);
    }

    private static void change() {
        CHECK.promise(10);
        ThreeStrangers x = new ThreeStrangers();
        CHECK.due("nobody", x.change(0, 0, 0), -2);
        x.person(5, 6);
        CHECK.due("hour", x.change(0, 0, 23), 5);
        CHECK.due("cost", x.change(0, 1, 9), 6);
        CHECK.due("hour now", x.personOf(0, 0), 23);
        CHECK.due("cost now", x.personOf(0, 1), 9);
        int[][] bad = {{-1, 0, 0}, {1, 0, 0}, {0, -1, 0}, {0, 2, 0}, {0, 0, 24}, {0, 0, -1}, {0, 1, 10}, {0, 1, -1}};
        for (int[] b : bad) {
            CHECK.due("change, bad", x.change(b[0], b[1], b[2]), -2);
        }
        CHECK.due("hour still", x.personOf(0, 0), 23);
        CHECK.due("cost still", x.personOf(0, 1), 9);
    }

    private static void know() {
        CHECK.promise(11);
        ThreeStrangers x = Check.crowd(3, 3);
        CHECK.due("were strangers", x.know(2, 0, 99), -1);
        CHECK.due("not refused", x.status(12), 0);
        CHECK.due("were known", x.know(0, 2, 0), 99);
        CHECK.due("each other", x.knownOf(2, 0), 0);
        CHECK.due("were known", x.know(0, 2, -1), 0);
        CHECK.due("strangers again", x.knownOf(2, 0), -1);
        int[][] bad = {{0, 0, 1}, {0, 3, 1}, {3, 0, 1}, {-1, 0, 1}, {0, -1, 1}, {0, 1, 100}, {0, 1, -2}};
        for (int[] b : bad) {
            CHECK.due("know, bad", x.know(b[0], b[1], b[2]), -2);
        }
        CHECK.due("strangers", x.status(3), 3);
    }

    private static void ask() {
        CHECK.promise(12);
        ThreeStrangers x = new ThreeStrangers();
        CHECK.due("seats", x.ask(0, 4), 3);
        CHECK.due("seats", x.ask(0, 2), 4);
        CHECK.due("memory", x.ask(1, 99), 0);
        CHECK.due("memory", x.ask(1, 0), 99);
        int[][] bad = {{0, 1}, {0, 5}, {1, -1}, {1, 100}, {2, 3}, {-1, 3}};
        for (int[] b : bad) {
            CHECK.due("ask, bad", x.ask(b[0], b[1]), -2);
        }
        CHECK.due("seats", x.status(1), 2);
        CHECK.due("memory", x.status(2), 0);
    }

    private static void feedAndWipe() {
        CHECK.promise(13);
        ThreeStrangers x = new ThreeStrangers();
        CHECK.due("bad", x.feed(-1), -2);
        CHECK.due("bad", x.feed(256), -2);
        for (int i = 1; i <= 250; i++) {
            CHECK.due("feed", x.feed(i % 256), i);
        }
        CHECK.due("full", x.feed(0), -6);
        CHECK.due("bad, ahead of full", x.feed(256), -2);
        CHECK.due("size", x.status(7), 250);
        CHECK.promise(14);
        CHECK.due("wipe", x.wipe(), 250);
        CHECK.due("wipe", x.wipe(), 0);
        CHECK.due("feed", x.feed(255), 1);
        CHECK.due("feed", x.feed(0), 2);
    }

    private static void townRead() {
        CHECK.promise(15);
        ThreeStrangers x = new ThreeStrangers();
        CHECK.due("all statements", Check.read(x, "person 23 9; person 0 0 ;person 07 09;know 0 1;know 1 2 since 99;seats 4;memory 99"), 7);
        CHECK.due("tape", x.status(7), 0);
        CHECK.due("hour", x.personOf(2, 0), 7);
        CHECK.due("cost", x.personOf(2, 1), 9);
        CHECK.due("known", x.knownOf(0, 1), 0);
        CHECK.due("known", x.knownOf(2, 1), 99);
        CHECK.due("seats", x.status(1), 4);
        CHECK.due("memory", x.status(2), 99);
        CHECK.due("onto what there is", Check.read(x, "person 1 1;strange 2 1;met 3 0 2;seats 2;memory 0"), 5);
        CHECK.due("strangers", x.knownOf(1, 2), -1);
        CHECK.due("met", x.knownOf(0, 3), 0);
        CHECK.due("met", x.knownOf(0, 2), 0);
        CHECK.due("met", x.knownOf(2, 3), 0);
        CHECK.due("not met", x.knownOf(1, 3), -1);
        CHECK.due("met alone", Check.read(x, "met 1"), 1);
        CHECK.due("met alone", x.knownOf(1, 3), -1);
        x.know(0, 3, 50);
        CHECK.due("met again", Check.read(x, "met 3 0"), 1);
        CHECK.due("since 0 years then", x.knownOf(0, 3), 0);
        CHECK.due("a later one counts", Check.read(x, "know 0 1 since 5;strange 0 1;know 1 0 since 6"), 3);
        CHECK.due("a later one counts", x.knownOf(0, 1), 6);
        CHECK.due("not refused", x.status(12), 0);
    }

    private static void townTokens() {
        ThreeStrangers x = new ThreeStrangers();
        CHECK.due("blanks around", Check.read(x, "  person  1   2  ;  person 3 4   "), 2);
        CHECK.due("no blanks", Check.read(x, "person5 6;know0 1since7;met0 1 2"), 3);
        CHECK.due("no blanks", x.personOf(2, 0), 5);
        CHECK.due("no blanks", x.knownOf(0, 1), 0);
        CHECK.due("since with blanks", Check.read(x, "know 0 2 since 08"), 1);
        CHECK.due("since with blanks", x.knownOf(0, 2), 8);
    }

    private static void fault(ThreeStrangers x, String text, int place) {
        int people = x.status(0);
        int strangers = x.status(3);
        int refused = x.status(12);
        CHECK.due("town \"" + text + "\"", Check.read(x, text), -20 - place);
        CHECK.due("nothing came", x.status(0), people);
        CHECK.due("nothing came", x.status(3), strangers);
        CHECK.due("tape", x.status(7), 0);
        CHECK.due("refused", x.status(12), refused + 1);
    }

    private static void townFaults() {
        ThreeStrangers x = Check.townOf("person 1 1;person 2 2;know 0 1");
        String[] texts = {"", "   ", "person", "person 1", "person 1 ", "person 1 1;", "person 1 1 ; ", ";", "1", "persons 1 1",
            "perso 1 1", "person person", "person 24 1", "person 1 10", "person 001 1", "person 1 001", "person 1 1 1",
            "person 1 1 person 1 1", "person 1 1;;", "know", "know 0", "know 0 0", "know 2 0", "know 0 2", "know 0 1 2",
            "know 0 1 since", "know 0 1 since 100", "know 0 1 since x", "know 0 1 since 1 2", "know 0 1 until 1",
            "strange 0 1 since 1", "strange 1 1", "strange 7 1", "seats 1", "seats 5", "seats 3 3", "seats x", "memory 100",
            "memory", "memory 9 9", "met", "met ;", "met 0 0", "met 0 1 0", "met 0 2", "met 0 1 x", "met 000", "Person 1 1",
            "person,1 1", "person 1,1", "person -1 1", "person 1 1.", "strange 0 1;know 0 3", "person 1 1;know 0 2;met 3",
            "know 0 10", "since 1", "seats 3; ;", "person 1 1;strange 0 1;seats 9", "personz 1 1", "zerson 1 1", "get 0", "mez 0",
            "seats 3z", "seats 3 z", "met 0a", "met 0/", "met 0:", "met`0", "met{0"};
        int[] places = {0, 3, 6, 8, 9, 11, 13, 0, 0, 0,
            0, 7, 7, 9, 7, 9, 11,
            11, 11, 4, 6, 7, 5, 7, 9,
            14, 15, 15, 17, 9,
            12, 10, 8, 6, 6, 8, 6, 7,
            6, 9, 3, 4, 6, 8, 6, 8, 4, 0,
            6, 8, 7, 10, 19, 24,
            7, 0, 9, 29, 0, 0, 0, 0,
            7, 8, 5, 5, 5, 3, 3};
        CHECK.due("as many places", texts.length, places.length);
        for (int i = 0; i < texts.length; i++) {
            fault(x, texts[i], places[i]);
        }
        CHECK.due("still known", x.knownOf(0, 1), 0);
        CHECK.due("seats still", x.status(1), 3);
        Check.type(x, "seats 3");
        x.feed(0);
        CHECK.due("byte 0", x.town(), -27);
        Check.type(x, "seats 3 ");
        x.feed(233);
        CHECK.due("byte 233", x.town(), -28);
        x.feed(9);
        CHECK.due("a tab is no blank", x.town(), -20);
    }

    private static void townFull() {
        ThreeStrangers x = Check.crowd(6, 3);
        fault(x, "person 1 1; person 1 1", 12);
        fault(x, "person 1 1;person 99 99", 11);
        fault(x, "person 1 1;person", 11);
        fault(x, "person 99 1;person 1 1", 7);
        CHECK.due("the last", Check.read(x, "person 1 1;know 6 5"), 2);
        fault(x, "seats 2;person", 8);
        CHECK.due("seats still", x.status(1), 3);
        CHECK.due("never -6", x.status(16), 0);
        CHECK.due("all met", Check.read(x, "met 0 1 2 3 4 5 6"), 1);
        CHECK.due("all met", x.status(3), 0);
        fault(x, "met 0 1 2 3 4 5 6 7", 18);
        fault(x, "met 0 1 2 3 4 5 6 6", 18);
        StringBuilder longest = new StringBuilder();
        for (int i = 0; i < 50; i++) {
            longest.append("met0;");
        }
        fault(x, longest.toString(), 250);
        CHECK.due("many", Check.read(x, longest.substring(0, 249)), 50);
    }

    private static void personOf() {
        CHECK.promise(16);
        ThreeStrangers x = Check.townOf("person 3 4;person 1 1;person 1 1;person 1 1;know 0 2 since 9");
        int[] due = {3, 4, 2 + 8, 2};
        for (int what = 0; what < 4; what++) {
            CHECK.due("personOf(0, " + what + ")", x.personOf(0, what), due[what]);
        }
        CHECK.due("strangers of 1", x.personOf(1, 2), 1 + 4 + 8);
        int[][] bad = {{-1, 0}, {4, 0}, {0, -1}, {0, 4}, {4, 4}};
        for (int[] b : bad) {
            CHECK.due("personOf, bad", x.personOf(b[0], b[1]), -2);
        }
        CHECK.due("refused", x.status(12), bad.length);
    }

    private static void knownOf() {
        CHECK.promise(17);
        ThreeStrangers x = Check.townOf("person 3 4;person 1 1;person 1 1;know 0 2 since 9");
        CHECK.due("known", x.knownOf(2, 0), 9);
        CHECK.due("strangers", x.knownOf(1, 0), -1);
        CHECK.due("not refused", x.status(12), 0);
        int[][] bad = {{0, 0}, {0, 3}, {3, 0}, {-1, 0}, {0, -1}};
        for (int[] b : bad) {
            CHECK.due("knownOf, bad", x.knownOf(b[0], b[1]), -2);
        }
        CHECK.due("refused", x.status(12), bad.length);
    }

    private static void meet() {
        CHECK.promise(42);
        ThreeStrangers x = Check.townOf("person 1 1;person 1 1;person 1 1;person 1 1;know 0 1 since 9");
        CHECK.due("nobody", x.meet(0), 0);
        CHECK.due("alone", x.meet(4), 0);
        CHECK.due("three", x.meet(7), 2);
        CHECK.due("since 0 years", x.knownOf(0, 1), 0);
        CHECK.due("since 0 years", x.knownOf(2, 1), 0);
        CHECK.due("not all", x.knownOf(2, 3), -1);
        CHECK.due("no day", x.status(4) + x.status(5), 0);
        CHECK.due("bad", x.meet(16), -2);
        CHECK.due("bad", x.meet(-1), -2);
        CHECK.due("again", x.meet(7), 0);
    }

    private static void year() {
        CHECK.promise(43);
        ThreeStrangers x = Check.townOf("person 1 1;person 1 1;person 1 1;person 1 1;know 0 1 since 98;know 0 2 since 1;know 0 3");
        CHECK.due("nobody forgets", x.year(), 0);
        CHECK.due("99", x.knownOf(0, 1), 99);
        CHECK.due("nobody forgets", x.year(), 0);
        CHECK.due("99 at most", x.knownOf(0, 1), 99);
        CHECK.due("one more", x.knownOf(0, 2), 3);
        CHECK.due("strangers", x.knownOf(1, 2), -1);
        x.ask(1, 99);
        CHECK.due("not more than 99", x.year(), 0);
        x.ask(1, 4);
        CHECK.due("not behind asking", x.knownOf(0, 1), 99);
        CHECK.due("two forget", x.year(), 2);
        CHECK.due("just memory", x.knownOf(0, 3), 4);
        CHECK.due("strangers", x.knownOf(0, 2), -1);
        CHECK.due("one more", x.year(), 1);
        CHECK.due("none left", x.year(), 0);
        CHECK.due("years", x.status(6), 6);
        CHECK.due("days", x.status(5), 0);
    }

    /** The draws as the document tells them, with longs in place of wrapping ints. */
    private static final class Draws {
        private long seed;

        int below(int n) {
            seed = (seed * 1103515245L + 12345L) & 0xFFFFFFFFL;
            return (int) (seed / 65536 % n);
        }
    }

    private static void come() {
        CHECK.promise(44);
        for (int seed = -3; seed < 40; seed++) {
            ThreeStrangers x = Check.crowd(2, 3);
            x.seed(seed * 123456789);
            Draws draws = new Draws();
            draws.seed = seed * 123456789 & 0xFFFFFFFFL;
            CHECK.due("come", x.come(3), 3);
            for (int p = 2; p < 5; p++) {
                CHECK.due("hour", x.personOf(p, 0), draws.below(24));
                CHECK.due("cost", x.personOf(p, 1), draws.below(10));
                for (int q = 0; q < p; q++) {
                    CHECK.due("known", x.knownOf(p, q), draws.below(3) == 0 ? 0 : -1);
                }
            }
            CHECK.due("seed", x.status(8), (int) draws.seed);
        }
    }

    private static void comeByHand() {
        ThreeStrangers x = new ThreeStrangers();
        CHECK.due("bad", x.come(0), -2);
        CHECK.due("bad", x.come(8), -2);
        CHECK.due("bad", x.come(-1), -2);
        CHECK.due("come", x.come(1), 1);
        // 1103527590 / 65536 = 16838, modulo 24 is 14; then 2524885223, / 65536 = 38526, modulo 10 is 6
        CHECK.due("hour", x.personOf(0, 0), 14);
        CHECK.due("cost", x.personOf(0, 1), 6);
        CHECK.due("seed", x.status(8), (int) 2524885223L);
        CHECK.due("until there is no room", x.come(7), 6);
        int seed = x.status(8);
        CHECK.due("no room", x.come(7), 0);
        CHECK.due("no draws", x.status(8), seed);
        CHECK.due("never full", x.status(16), 0);
    }

    private static void seed() {
        CHECK.promise(45);
        ThreeStrangers x = new ThreeStrangers();
        CHECK.due("seed", x.seed(Integer.MIN_VALUE), 1);
        CHECK.due("seed", x.seed(-2), Integer.MIN_VALUE);
        CHECK.due("seed", x.status(8), -2);
        CHECK.due("seed", x.seed(0), -2);
        CHECK.due("refused", x.status(12), 0);
    }

    private static void imageAndBack() {
        CHECK.promise(47);
        ThreeStrangers x = Check.townOf("person 1 2;person 3 4;person 5 6;know 0 1 since 7;seats 2;memory 9");
        CHECK.due("nothing kept", x.back(), -5);
        CHECK.due("refused", x.status(15), 1);
        x.seed(77);
        x.coachman(0, 1, 0);
        x.day(0);
        x.year();
        CHECK.promise(46);
        CHECK.due("image", x.image(), 1);
        int[] kept = new int[9];
        for (int what = 0; what < 9; what++) {
            kept[what] = x.status(what);
        }
        CHECK.due("a day and a year", kept[5] * 10 + kept[6], 11);
        for (int again = 0; again < 2; again++) {
            x.come(7);
            x.change(0, 0, 20);
            x.change(0, 1, 0);
            x.meet(7);
            x.day(0);
            x.year();
            x.ask(0, 4);
            x.ask(1, 3);
            x.row(1, 2, 3);
            x.feed(' ');
            x.feed(256);
            CHECK.promise(47);
            CHECK.due("back", x.back(), 1);
            for (int what = 0; what < 9; what++) {
                CHECK.due("status " + what, x.status(what), what == 7 ? again + 1 : kept[what]);
            }
            CHECK.due("hour", x.personOf(0, 0), 1);
            CHECK.due("cost", x.personOf(0, 1), 2);
            CHECK.due("known", x.knownOf(0, 1), 8);
            CHECK.due("known", x.knownOf(0, 2), 1);
            CHECK.due("strangers", x.knownOf(1, 2), -1);
            CHECK.due("a shelf stays", x.holds(1), 2);
            CHECK.due("refusals stay", x.status(12), again + 1);
        }
        x.person(9, 9);
        x.image();
        x.meet(15);
        x.back();
        CHECK.due("the later image", x.status(0), 4);
        CHECK.due("the new one is a stranger", x.personOf(3, 2), 7);
    }

    private static void status() {
        CHECK.promise(48);
        ThreeStrangers x = Check.townOf("person 1 2;person 3 4;person 5 6;person 7 8;know 0 1 since 7;seats 2;memory 9");
        x.coachman(0, 1, 0);
        x.day(0);
        x.day(0);
        x.year();
        x.feed(1);
        x.seed(5);
        x.row(1, 0, 0);
        x.person(24, 0);
        x.feed(256);
        x.run(1);
        x.run(2);
        x.coach(0, 9);
        x.back();
        x.back();
        int[] due = {4, 2, 9, 1, 4, 2, 1, 1, 5, 2, -1, -1, 2, 1, 1, 3, 0, -1};
        for (int what = 0; what < due.length; what++) {
            CHECK.due("status(" + what + ")", x.status(what), due[what]);
        }
        CHECK.due("another what", x.status(-1), -1);
        CHECK.due("another what", x.status(Integer.MAX_VALUE), -1);
        CHECK.due("another what", x.status(Integer.MIN_VALUE), -1);
        CHECK.due("not refused", x.status(12), 2);
    }
}
