/** Promises 18 to 29 and 38 to 41: groups, days by coachmen, told days, days in truth. */
public final class DaysTest {
    private static final Check CHECK = new Check("DaysTest");

    public static void main(String[] args) {
        isGroup();
        groups();
        firstOf();
        most();
        mostOf();
        sends();
        run();
        runInOrder();
        runRefused();
        waits();
        least();
        leastCoaches();
        head();
        judge();
        behind();
        rides();
        toldRefused();
        day();
        CHECK.end();
    }

    /** Seven people; 0, 1 and 2 know each other, and so do 3 and 4. */
    private static ThreeStrangers seven(int seats) {
        ThreeStrangers x = Check.crowd(7, seats);
        x.meet(7);
        x.meet(24);
        return x;
    }

    private static void isGroup() {
        CHECK.promise(18);
        ThreeStrangers x = seven(3);
        int[] yes = {1 + 8 + 32, 2 + 16 + 64, 32 + 64 + 1};
        int[] no = {0, 1, 7, 1 + 8, 1 + 2 + 8, 8 + 16 + 1, 1 + 8 + 32 + 64, 127};
        for (int set : yes) {
            CHECK.due("isGroup(" + set + ")", x.isGroup(set), 1);
        }
        for (int set : no) {
            CHECK.due("isGroup(" + set + ")", x.isGroup(set), 0);
        }
        CHECK.due("bad", x.isGroup(128), -2);
        CHECK.due("bad", x.isGroup(-1), -2);
        x.ask(0, 2);
        CHECK.due("two", x.isGroup(1 + 8), 1);
        CHECK.due("two that are known", x.isGroup(3), 0);
        x.ask(0, 4);
        CHECK.due("four", x.isGroup(1 + 8 + 32 + 64), 1);
        CHECK.due("bad", new ThreeStrangers().isGroup(1), -2);
    }

    private static void groups() {
        CHECK.promise(19);
        ThreeStrangers x = seven(3);
        // one of 0 1 2, one of 3 4, 5 and 6: two of the first sorts with 5 or 6, or one with both
        CHECK.due("groups", x.groups(127), 3 * 2 * 2 + 5);
        CHECK.due("groups", x.groups(31), 0);
        CHECK.due("groups", x.groups(63), 6);
        CHECK.due("groups", x.groups(0), 0);
        x.ask(0, 2);
        CHECK.due("two", x.groups(127), 21 - 4);
        x.ask(0, 4);
        CHECK.due("four", x.groups(127), 6);
        CHECK.due("bad", x.groups(128), -2);
        CHECK.due("bad", x.groups(-1), -2);
        CHECK.due("all groups", Check.crowd(7, 3).groups(127), 35);
        CHECK.due("all groups", Check.crowd(7, 4).groups(127), 35);
    }

    private static void firstOf() {
        CHECK.promise(20);
        ThreeStrangers x = seven(3);
        CHECK.due("first", x.firstOf(127), 1 + 8 + 32);
        CHECK.due("first", x.firstOf(127 - 8), 1 + 16 + 32);
        CHECK.due("none", x.firstOf(31), 0);
        ThreeStrangers y = Check.townOf("person 1 1;person 1 1;person 1 1;person 1 1;seats 2;know 0 1;know 0 2");
        CHECK.due("0 3 ahead of 1 2", y.firstOf(15), 9);
        CHECK.due("bad", x.firstOf(128), -2);
        CHECK.due("bad", x.firstOf(-1), -2);
    }

    private static void most() {
        CHECK.promise(21);
        CHECK.due("most", Check.crowd(7, 2).most(127), 3);
        CHECK.due("most", Check.crowd(7, 3).most(127), 2);
        CHECK.due("most", Check.crowd(7, 3).most(31), 1);
        CHECK.due("most", Check.crowd(7, 4).most(127), 1);
        ThreeStrangers x = seven(3);
        CHECK.due("most", x.most(127), 2);
        CHECK.due("most", x.most(127 - 64), 1);
        CHECK.due("none", x.most(31), 0);
        CHECK.due("bad", x.most(128), -2);
        CHECK.due("bad", x.most(-1), -2);
    }

    private static void mostOf() {
        CHECK.promise(22);
        // 0 may ride with all, 1 with 0 alone, 2 with 3 and 0: the first pair, 0 1, leaves 2 3
        ThreeStrangers x = Check.townOf("person 1 1;person 1 1;person 1 1;person 1 1;seats 2;know 1 2;know 1 3");
        CHECK.due("first", x.mostOf(15, 0), 3);
        CHECK.due("second", x.mostOf(15, 1), 12);
        CHECK.due("no third", x.mostOf(15, 2), -5);
        CHECK.due("no third", x.mostOf(15, Integer.MAX_VALUE), -5);
        // now 0 1 would leave nothing: 2 and 3 are known, so 0 2 and 1 3 go
        ThreeStrangers y = Check.townOf("person 1 1;person 1 1;person 1 1;person 1 1;seats 2;know 2 3");
        CHECK.due("not the first group", y.mostOf(15, 0), 5);
        CHECK.due("second", y.mostOf(15, 1), 10);
        CHECK.due("bad", y.mostOf(15, -1), -2);
        CHECK.due("bad", y.mostOf(16, 0), -2);
        CHECK.due("bad", y.mostOf(-1, 9), -2);
        CHECK.due("refused -5", x.status(15), 2);
    }

    private static void sends() {
        CHECK.promise(23);
        ThreeStrangers x = Check.crowd(5, 3);
        x.coachman(0, 3, 5);
        x.coachman(1, 1, 9);
        x.row(2, 0, 0);
        CHECK.due("waits", x.sends(0, 15, 1), 0);
        CHECK.due("nobody to come", x.sends(0, 15, 0), 7);
        CHECK.due("enough", x.sends(0, 31, 7), 7);
        CHECK.due("first doesn't wait", x.sends(1, 28, 7), 28);
        CHECK.due("too few", x.sends(1, 3, 0), 0);
        int[][] bad = {{-1, 0, 0}, {8, 0, 0}, {0, 32, 0}, {0, -1, 0}, {0, 0, -1}, {0, 0, 8}, {2, 32, 0}, {3, 0, 8}};
        for (int[] b : bad) {
            CHECK.due("sends, bad", x.sends(b[0], b[1], b[2]), -2);
        }
        CHECK.due("other", x.sends(2, 0, 0), -3);
        CHECK.due("nothing", x.sends(3, 0, 0), -4);
        x.change(4, 1, 9);
        x.change(1, 1, 5);
        x.coachman(3, 2, 0);
        CHECK.due("choose", x.sends(3, 31, 0), 1 + 2 + 16);
        CHECK.due("choose, the first of several", x.sends(3, 15, 0), 1 + 2 + 4);
        x.coachman(4, 4, 0);
        x.know(3, 4, 0);
        CHECK.due("spares counts all people", x.sends(4, 15, 0), 1 + 2 + 8);
        x.ask(0, 2);
        x.coachman(5, 5, 0);
        x.know(2, 3, 0);
        CHECK.due("best", x.sends(5, 15, 0), 5);
    }

    /** Four in the order of their hours: 2, 0, 3, 1. */
    private static ThreeStrangers four() {
        return Check.townOf("person 8 2;person 20 3;person 5 1;person 9 4;seats 2");
    }

    private static void run() {
        CHECK.promise(24);
        ThreeStrangers x = four();
        x.coachman(0, 1, 0);
        x.coachman(1, 3, 4);
        x.coachman(2, 3, 3);
        CHECK.due("run", x.run(0), 2);
        CHECK.due("run", x.run(1), 2);
        CHECK.promise(25);
        CHECK.due("coach", x.coach(0, 0), 1 + 4);
        CHECK.due("coach", x.coach(0, 1), 2 + 8);
        CHECK.due("waits for four", x.coach(1, 0), 1 + 2);
        CHECK.due("waits for four", x.coach(1, 1), 4 + 8);
        CHECK.due("waits for three", x.coach(2, 0), 1 + 4);
        CHECK.due("nobody to come", x.coach(2, 1), 2 + 8);
        CHECK.promise(26);
        CHECK.due("left", x.left(0), 0);
        x.person(21, 1);
        CHECK.due("left", x.left(0), 16);
        x.meet(31);
        CHECK.due("all left", x.left(0), 31);
        CHECK.promise(24);
        CHECK.due("no coach", x.run(0), 0);
        CHECK.due("nothing in truth", x.status(4) + x.status(5), 0);
    }

    private static void runInOrder() {
        CHECK.promise(24);
        ThreeStrangers x = Check.townOf("person 9 1;person 9 1;person 9 1;person 0 1;seats 2;know 3 0");
        x.coachman(0, 1, 0);
        CHECK.due("run", x.run(0), 2);
        CHECK.due("in an hour by numbers", x.coach(0, 0), 3);
        CHECK.due("in an hour by numbers", x.coach(0, 1), 4 + 8);
        CHECK.due("knowledge is as in the morning", x.knownOf(0, 1), -1);
        ThreeStrangers y = Check.crowd(6, 3);
        y.coachman(0, 3, 6);
        CHECK.due("several behind one coming", y.run(0), 2);
        y.person(1, 1);
        CHECK.due("fewer than six behind the first coach", y.run(0), 2);
        CHECK.due("but nobody to come", y.coach(0, 1), 8 + 16 + 32);
        CHECK.due("left", y.left(0), 64);
    }

    private static void runRefused() {
        ThreeStrangers x = four();
        x.coachman(0, 1, 0);
        x.row(1, 0, 4);
        CHECK.promise(24);
        CHECK.due("run", x.run(-1), -2);
        CHECK.due("run", x.run(8), -2);
        CHECK.due("run", x.run(1), -3);
        CHECK.due("run", x.run(2), -4);
        CHECK.promise(25);
        CHECK.due("coach", x.coach(8, 0), -2);
        CHECK.due("coach", x.coach(0, -1), -2);
        CHECK.due("coach", x.coach(1, -1), -2);
        CHECK.due("coach", x.coach(1, 0), -3);
        CHECK.due("coach", x.coach(2, 0), -4);
        CHECK.due("coach", x.coach(0, 2), -5);
        CHECK.due("coach", x.coach(0, Integer.MAX_VALUE), -5);
        CHECK.promise(26);
        CHECK.due("left", x.left(8), -2);
        CHECK.due("left", x.left(1), -3);
        CHECK.due("left", x.left(2), -4);
        CHECK.promise(27);
        CHECK.due("waits", x.waits(8, 0), -2);
        CHECK.due("waits", x.waits(0, 4), -2);
        CHECK.due("waits", x.waits(1, -2), -2);
        CHECK.due("waits", x.waits(1, 0), -3);
        CHECK.due("waits", x.waits(2, -1), -4);
        CHECK.due("refused -2", x.status(12), 9);
        CHECK.due("refused -3", x.status(13), 4);
        CHECK.due("refused -4", x.status(14), 4);
        CHECK.due("refused -5", x.status(15), 2);
    }

    private static void waits() {
        CHECK.promise(27);
        ThreeStrangers x = four();
        x.coachman(0, 1, 0);
        x.coachman(1, 3, 4);
        // 0 and 2 go at 8, 1 and 3 at 20
        int[] due = {0, 0, 3, 44};
        for (int p = 0; p < 4; p++) {
            CHECK.due("waits of " + p, x.waits(0, p), due[p]);
        }
        CHECK.due("of all", x.waits(0, -1), 47);
        CHECK.due("all go at 20", x.waits(1, -1), 2 * 12 + 15 + 44);
        x.meet(15);
        CHECK.due("left: to 24", x.waits(0, 1), 3 * 4);
        CHECK.due("left: to 24", x.waits(0, -1), 2 * 16 + 3 * 4 + 19 + 4 * 15);
    }

    private static void least() {
        CHECK.promise(28);
        ThreeStrangers x = four();
        // 0 with 3 at 9 and 1 with 2 at 20: 2 + 15; all other ways cost more
        CHECK.due("least", x.least(0), 17);
        CHECK.due("its coaches", x.least(1), 2);
        x.know(1, 2, 0);
        // 0 2 and 1 3: 3 + 44; 0 3 alone: 2 + 12 + 19; 2 3 and 0 1: 4 + 24; 2 3: 4 + 12 + 32
        CHECK.due("least", x.least(0), 28);
        CHECK.due("its coaches", x.least(1), 2);
        x.meet(15);
        CHECK.due("nobody rides", x.least(0), 2 * 16 + 3 * 4 + 19 + 4 * 15);
        CHECK.due("no coach", x.least(1), 0);
        CHECK.due("bad", x.least(2), -2);
        CHECK.due("bad", x.least(-1), -2);
    }

    private static void leastCoaches() {
        ThreeStrangers x = Check.townOf("person 1 0;person 2 0;person 3 0;person 4 0;person 5 0;seats 2");
        CHECK.due("all ways cost nothing", x.least(0), 0);
        CHECK.due("the most of several", x.least(1), 2);
        // waiting for 2 costs more than staying: 0 1 are known, 2 comes late and is dear to wait for
        ThreeStrangers y = Check.townOf("person 0 9;person 0 1;person 23 1;seats 2;know 0 1");
        CHECK.due("the dear one rides", y.least(0), 23 * 9 + 24);
        CHECK.due("one coach", y.least(1), 1);
    }

    private static void head() {
        CHECK.promise(29);
        ThreeStrangers x = four();
        CHECK.due("none holds one", x.head(), -5);
        x.row(0, 0, 0);
        CHECK.due("none holds one", x.head(), -5);
        x.coachman(1, 3, 4);
        CHECK.due("the only one", x.head(), 1);
        x.coachman(3, 1, 0);
        CHECK.due("the least", x.head(), 3);
        x.coachman(2, 1, 9);
        CHECK.due("the first of several", x.head(), 2);
        x.coachman(2, 3, 4);
        CHECK.due("the least again", x.head(), 3);
        CHECK.due("refused", x.status(15), 2);
    }

    private static void judge() {
        CHECK.promise(38);
        ThreeStrangers x = seven(3);
        Check.rowOf(x, 0, 0, 41, 2 + 16 + 64, 4 + 8 + 32, 7);
        CHECK.due("none told", x.judge(0, 0), -1);
        CHECK.due("right", x.judge(0, 2), -1);
        CHECK.due("two rode ahead", x.judge(0, 3), 2);
        CHECK.due("the first wrong", x.judge(0, 4), 2);
        x.set(0, 0, 7);
        CHECK.due("no group", x.judge(0, 3), 0);
        CHECK.due("none told", x.judge(0, 0), -1);
        x.set(0, 0, 0);
        CHECK.due("nobody is no group", x.judge(0, 1), 0);
        Check.rowOf(x, 1, 3, (1L << 32) + 41, 41 + 128, Long.MIN_VALUE + 41, -1);
        for (int i = 0; i < 4; i++) {
            CHECK.due("no set of people", x.judge(1, 1), 0);
            x.copy(1, 1, 1, 0, 3);
        }
        Check.rowOf(x, 2, 4, 41);
        CHECK.due("a boolean is 1", x.judge(2, 1), 0);
    }

    private static void behind() {
        CHECK.promise(39);
        ThreeStrangers x = Check.crowd(7, 3);
        Check.rowOf(x, 0, 2, 7, 8 + 16 + 32, 64 + 1 + 8);
        CHECK.due("none rode", x.behind(0, 0, 0), 127);
        CHECK.due("none rode", x.behind(0, 0, 1), 35);
        CHECK.due("three rode", x.behind(0, 1, 0), 127 - 7);
        // without the groups that hold two or more of the three
        CHECK.due("three rode", x.behind(0, 1, 1), 35 - 1 - 12);
        CHECK.due("six rode", x.behind(0, 2, 0), 64);
        CHECK.due("six rode", x.behind(0, 2, 1), 9);
        CHECK.due("it may not be", x.behind(0, 3, 0), -5);
        CHECK.due("it may not be", x.behind(0, 3, 1), -5);
        CHECK.due("in thought", x.status(3), 21);
    }

    private static void rides() {
        CHECK.promise(40);
        ThreeStrangers x = Check.crowd(7, 3);
        Check.rowOf(x, 0, 2, 7, 8 + 16 + 32, 64 + 1 + 8);
        CHECK.due("it may not be", x.rides(0, 3), -5);
        CHECK.due("nothing came", x.status(3) + x.status(4) + x.status(5), 21);
        CHECK.due("two coaches", x.rides(0, 2), 2);
        CHECK.due("known", x.knownOf(0, 2), 0);
        CHECK.due("strangers", x.knownOf(2, 3), -1);
        CHECK.due("strangers", x.status(3), 15);
        CHECK.due("coaches", x.status(4), 2);
        CHECK.due("days", x.status(5), 1);
        CHECK.due("no more", x.rides(0, 2), -5);
        CHECK.due("a day without coaches", x.rides(0, 0), 0);
        CHECK.due("coaches", x.status(4), 2);
        CHECK.due("days", x.status(5), 2);
    }

    private static void toldRefused() {
        ThreeStrangers x = Check.crowd(7, 3);
        Check.rowOf(x, 0, 2, 1, 1, 1);
        x.coachman(1, 1, 0);
        x.row(3, 2, 40);
        int[][] cases = {{8, 0, -2}, {-1, 0, -2}, {0, -1, -2}, {0, 8, -2}, {1, 8, -2}, {2, -1, -2}, {1, 4, -3}, {2, 4, -4},
            {0, 4, -2}, {3, 8, -2}};
        for (int[] c : cases) {
            CHECK.promise(38);
            CHECK.due("judge", x.judge(c[0], c[1]), c[2]);
            CHECK.promise(39);
            CHECK.due("behind", x.behind(c[0], c[1], 0), c[2]);
            CHECK.due("behind, also what", x.behind(c[0], c[1], 2), -2);
            CHECK.due("behind, also what", x.behind(c[0], c[1], -1), -2);
            CHECK.promise(40);
            CHECK.due("rides", x.rides(c[0], c[1]), c[2]);
        }
        CHECK.promise(38);
        CHECK.due("as many as may be", x.judge(3, 7), 0);
        CHECK.due("days", x.status(5), 0);
        CHECK.due("refused -3", x.status(13), 3);
        CHECK.due("refused -4", x.status(14), 3);
        CHECK.due("refused -2", x.status(12), 8 * 3 + 20);
    }

    private static void day() {
        CHECK.promise(41);
        ThreeStrangers x = four();
        x.coachman(0, 1, 0);
        x.row(1, 0, 0);
        CHECK.due("day", x.day(0), 2);
        CHECK.due("known", x.knownOf(0, 2), 0);
        CHECK.due("known", x.knownOf(1, 3), 0);
        CHECK.due("strangers", x.status(3), 4);
        CHECK.due("coaches", x.status(4), 2);
        CHECK.due("day", x.day(0), 2);
        CHECK.due("day", x.day(0), 2);
        CHECK.due("day", x.day(0), 0);
        CHECK.due("coaches", x.status(4), 6);
        CHECK.due("days", x.status(5), 4);
        CHECK.due("bad", x.day(8), -2);
        CHECK.due("bad", x.day(-1), -2);
        CHECK.due("other", x.day(1), -3);
        CHECK.due("nothing", x.day(2), -4);
        CHECK.due("days", x.status(5), 4);
    }
}
