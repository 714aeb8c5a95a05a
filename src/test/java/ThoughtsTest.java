/** Promises 30 to 37: what comes of it, in thought. */
public final class ThoughtsTest {
    private static final Check CHECK = new Check("ThoughtsTest");

    public static void main(String[] args) {
        days();
        ever();
        hire();
        feast();
        closes();
        worst();
        fits();
        sure();
        nothingChanges();
        CHECK.end();
    }

    private static void days() {
        CHECK.promise(30);
        ThreeStrangers x = Check.crowd(4, 2);
        x.coachman(0, 1, 0);
        x.row(1, 0, 0);
        // 0 1 and 2 3, then 0 2 and 1 3, then 1 2 and 0 3
        CHECK.due("days", x.days(0), 3);
        ThreeStrangers y = Check.crowd(3, 2);
        y.coachman(0, 1, 0);
        CHECK.due("one coach a day", y.days(0), 3);
        y.meet(7);
        CHECK.due("no day", y.days(0), 0);
        ThreeStrangers z = Check.crowd(5, 4);
        z.coachman(0, 5, 0);
        CHECK.due("one day", z.days(0), 1);
        CHECK.due("bad", x.days(8), -2);
        CHECK.due("bad", x.days(-1), -2);
        CHECK.due("other", x.days(1), -3);
        CHECK.due("nothing", x.days(2), -4);
    }

    private static void ever() {
        CHECK.promise(31);
        int[][] threes = {{0, 0}, {0, 0}, {0, 0}, {1, 1}, {1, 1}, {2, 2}, {4, 2}, {7, 5}};
        int[][] fours = {{0, 0}, {0, 0}, {0, 0}, {0, 0}, {1, 1}, {1, 1}, {1, 1}, {2, 2}};
        for (int n = 0; n < 8; n++) {
            ThreeStrangers x = Check.crowd(n, 3);
            CHECK.due("longest of " + n, x.ever(0), threes[n][0]);
            CHECK.due("soonest of " + n, x.ever(1), threes[n][1]);
            x.ask(0, 4);
            CHECK.due("longest of " + n + " by fours", x.ever(0), fours[n][0]);
            CHECK.due("soonest of " + n + " by fours", x.ever(1), fours[n][1]);
            x.ask(0, 2);
            CHECK.due("longest of " + n + " by twos", x.ever(0), n * (n - 1) / 2);
            CHECK.due("soonest of " + n + " by twos", x.ever(1), n * (n - 1) / 2);
        }
        ThreeStrangers x = Check.crowd(2, 3);
        CHECK.due("bad", x.ever(2), -2);
        CHECK.due("bad", x.ever(-1), -2);
    }

    private static void hire() {
        CHECK.promise(32);
        for (int seats = 2; seats <= 4; seats++) {
            for (int n = 0; n < 8; n++) {
                CHECK.due("hire, " + n + " by " + seats, Check.crowd(n, seats).hire(), (n + 1) / seats - n / seats);
            }
        }
        ThreeStrangers x = Check.crowd(3, 3);
        x.know(0, 1, 0);
        CHECK.due("with two strangers", x.hire(), 1);
        x.meet(7);
        CHECK.due("all are known", x.hire(), 0);
        x.ask(0, 2);
        CHECK.due("all are known, by twos", x.hire(), 1);
        CHECK.due("nobody came", x.status(0), 3);
    }

    private static void feast() {
        CHECK.promise(33);
        ThreeStrangers x = Check.crowd(7, 3);
        CHECK.due("nobody", x.feast(0), 0);
        CHECK.due("alone", x.feast(64), 0);
        CHECK.due("two", x.feast(3), 1);
        CHECK.due("three", x.feast(7), 1);
        CHECK.due("all", x.feast(127), 7);
        CHECK.due("bad", x.feast(128), -2);
        CHECK.due("bad", x.feast(-1), -2);
        x.ask(0, 2);
        CHECK.due("by twos", x.feast(15), 6);
        x.know(0, 1, 3);
        CHECK.due("by twos", x.feast(15), 5);
    }

    private static void closes() {
        CHECK.promise(34);
        ThreeStrangers x = Check.crowd(7, 3);
        CHECK.due("closes", x.closes(0, 1), 5);
        x.know(1, 2, 0);
        CHECK.due("closes", x.closes(0, 1), 4);
        CHECK.due("known", x.closes(2, 1), 0);
        x.ask(0, 2);
        CHECK.due("by twos", x.closes(6, 0), 1);
        x.ask(0, 4);
        CHECK.due("by fours", x.closes(5, 6), 10 - 1);
        int[][] bad = {{0, 0}, {0, 7}, {7, 0}, {-1, 0}, {0, -1}};
        for (int[] b : bad) {
            CHECK.due("closes, bad", x.closes(b[0], b[1]), -2);
        }
    }

    private static void worst() {
        CHECK.promise(35);
        ThreeStrangers x = Check.crowd(5, 3);
        CHECK.due("the first of several", x.worst(), 1);
        x.know(0, 1, 0);
        CHECK.due("those without 0 and 1", x.worst(), 23);
        x.know(2, 3, 0);
        // 4 with any other closes two, all the rest one
        CHECK.due("0 and 4", x.worst(), 4);
        x.ask(0, 4);
        x.meet(15);
        CHECK.due("no groups, but strangers", x.worst(), 4);
        x.meet(31);
        CHECK.due("no strangers", x.worst(), -5);
        CHECK.due("no strangers", Check.crowd(1, 2).worst(), -5);
    }

    private static void fits() {
        CHECK.promise(36);
        ThreeStrangers x = Check.crowd(7, 3);
        // graphs without a triangle: 1, 2, 7, 41, 388 on 1 to 5 people
        int[] due = {1, 1, 2, 7, 41, 388};
        for (int n = 0; n <= 5; n++) {
            CHECK.due("fits of " + n, x.fits((1 << n) - 1), due[n]);
            CHECK.due("fits of the last " + n, x.fits(127 & ~((1 << 7 - n) - 1)), due[n]);
        }
        x.ask(0, 2);
        CHECK.due("by twos", x.fits(31), 1);
        x.ask(0, 4);
        CHECK.due("by fours", x.fits(15), 63);
        x.know(0, 1, 0);
        CHECK.due("no group at all", x.fits(15), 32);
        CHECK.due("more than five", x.fits(63), -2);
        CHECK.due("bad", x.fits(128), -2);
        CHECK.due("bad", x.fits(-1), -2);
        x.meet(31);
        CHECK.due("all are known", x.fits(31), 1);
    }

    private static void sure() {
        CHECK.promise(37);
        ThreeStrangers x = Check.crowd(7, 3);
        CHECK.due("the first of several", x.sure(7), 1);
        CHECK.due("the first of several", x.sure(64 + 32 + 16), 45);
        x.know(0, 1, 0);
        // of 0 2 3 and 1 2 3 the pair 2 3 is in both
        CHECK.due("in two groups", x.sure(15), 23);
        x.know(2, 3, 0);
        CHECK.due("no groups left", x.sure(15), 2);
        CHECK.due("more than five", x.sure(63), -2);
        CHECK.due("bad", x.sure(128), -2);
        CHECK.due("bad", x.sure(-1), -2);
        CHECK.due("no strangers in it", x.sure(3), -5);
        CHECK.due("no strangers in it", x.sure(64), -5);
        CHECK.due("no strangers in it", x.sure(0), -5);
        x.ask(0, 2);
        CHECK.due("by twos", x.sure(31), 2);
    }

    private static void nothingChanges() {
        ThreeStrangers x = Check.townOf("person 1 2;person 2 3;person 3 4;person 4 5;person 5 6;know 0 3 since 8;memory 9");
        x.coachman(0, 5, 0);
        x.seed(9);
        x.days(0);
        x.ever(0);
        x.ever(1);
        x.hire();
        x.feast(31);
        x.closes(0, 1);
        x.worst();
        x.fits(31);
        x.sure(31);
        int[] due = {5, 3, 9, 9, 0, 0, 0, 0, 9, 1, -1, -1, 0, 0, 0, 0, 0};
        for (int what = 0; what < due.length; what++) {
            CHECK.due("status(" + what + ")", x.status(what), due[what]);
        }
        CHECK.due("known", x.knownOf(0, 3), 8);
    }
}
