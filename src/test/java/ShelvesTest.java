/** Promises 1 to 8: a new object, rows and coachmen on shelves. */
public final class ShelvesTest {
    private static final Check CHECK = new Check("ShelvesTest");

    public static void main(String[] args) {
        newObject();
        row();
        set();
        copy();
        copyRefused();
        element();
        holds();
        coachman();
        says();
        saysRefused();
        CHECK.end();
    }

    private static void newObject() {
        CHECK.promise(1);
        ThreeStrangers x = new ThreeStrangers();
        int[] due = {0, 3, 0, 0, 0, 0, 0, 0, 1, 0, -1, -1, 0, 0, 0, 0, 0, -1};
        for (int what = 0; what < due.length; what++) {
            CHECK.due("status(" + what + ")", x.status(what), due[what]);
        }
        for (int s = 0; s < 8; s++) {
            CHECK.due("holds(" + s + ")", x.holds(s), ThreeStrangers.NONE);
        }
        CHECK.due("NONE", ThreeStrangers.NONE, -1);
    }

    private static void row() {
        CHECK.promise(2);
        ThreeStrangers x = new ThreeStrangers();
        for (int sort = 0; sort < 5; sort++) {
            CHECK.due("row", x.row(sort, sort, 40), 1);
            CHECK.due("holds", x.holds(sort), sort);
        }
        CHECK.due("row of none", x.row(7, 0, 0), 1);
        int[][] bad = {{-1, 0, 0}, {8, 0, 0}, {0, -1, 0}, {0, 5, 0}, {0, 0, -1}, {0, 0, 41}, {Integer.MIN_VALUE, 0, 0}};
        for (int[] b : bad) {
            CHECK.due("row, bad", x.row(b[0], b[1], b[2]), -2);
        }
        CHECK.due("refused", x.status(12), bad.length);
        CHECK.due("as it was", x.holds(0), 0);
        Check.rowOf(x, 1, 3, 5, 6, 7);
        x.row(1, 3, 3);
        CHECK.due("a new row is empty", x.element(1, 0) + x.element(1, 1) + x.element(1, 2), 0);
        x.coachman(2, 1, 0);
        CHECK.due("a row for a coachman", x.row(2, 4, 1), 1);
        CHECK.due("a row for a coachman", x.holds(2), 4);
        CHECK.due("he is gone", x.run(2), -3);
    }

    private static void set() {
        CHECK.promise(3);
        ThreeStrangers x = new ThreeStrangers();
        long v = 0x123456789ABCDEF0L;
        long[] due = {(byte) 0xF0, (short) 0xDEF0, (int) 0x9ABCDEF0L, v, 1};
        for (int sort = 0; sort < 5; sort++) {
            x.row(0, sort, 2);
            CHECK.due("set", x.set(0, 1, v), 1);
            CHECK.due("element of sort " + sort, x.element(0, 1), due[sort]);
            CHECK.due("the other", x.element(0, 0), 0);
            CHECK.due("set", x.set(0, 1, 256), 1);
            CHECK.due("256 in sort " + sort, x.element(0, 1), sort == 0 ? 0 : sort == 4 ? 1 : 256);
            CHECK.due("set", x.set(0, 1, 0), 1);
            CHECK.due("0 again", x.element(0, 1), 0);
        }
        CHECK.due("a bit of a boolean far up", x.set(0, 0, 1L << 63), 1);
        CHECK.due("a bit of a boolean far up", x.element(0, 0), 1);
        CHECK.due("i", x.set(0, 2, 0), -2);
        CHECK.due("i", x.set(0, -1, 0), -2);
        CHECK.due("shelf", x.set(8, 0, 0), -2);
        CHECK.due("shelf", x.set(-1, 0, 0), -2);
        CHECK.due("nothing, ahead of i", x.set(1, -1, 0), -4);
        x.coachman(1, 5, 0);
        CHECK.due("other, ahead of i", x.set(1, -1, 0), -3);
        CHECK.due("refused -2", x.status(12), 4);
        CHECK.due("refused -3", x.status(13), 1);
        CHECK.due("refused -4", x.status(14), 1);
    }

    private static void copy() {
        CHECK.promise(4);
        ThreeStrangers x = new ThreeStrangers();
        Check.rowOf(x, 0, 1, 1, 2, 3, 4, 5);
        CHECK.due("copy onto itself", x.copy(0, 0, 0, 1, 4), 4);
        long[] due = {1, 1, 2, 3, 4};
        for (int i = 0; i < 5; i++) {
            CHECK.due("as they were", x.element(0, i), due[i]);
        }
        CHECK.due("copy downward", x.copy(0, 0, 1, 0, 4), 4);
        CHECK.due("as they were", x.element(0, 0), 1);
        CHECK.due("as they were", x.element(0, 3), 4);
        x.row(1, 1, 2);
        CHECK.due("copy", x.copy(0, 1, 2, 0, 2), 2);
        CHECK.due("copied", x.element(1, 0) * 10 + x.element(1, 1), 34);
        CHECK.due("none at the ends", x.copy(0, 1, 5, 2, 0), 0);
    }

    private static void copyRefused() {
        ThreeStrangers x = new ThreeStrangers();
        x.row(0, 1, 5);
        x.row(1, 1, 2);
        x.row(2, 2, 5);
        x.coachman(3, 1, 1);
        int huge = Integer.MAX_VALUE;
        int[][] bad = {{-1, 0, 0, 0, 0}, {0, 8, 0, 0, 0}, {3, 8, 0, 0, 0}, {0, 1, -1, 0, 1}, {0, 1, 0, -1, 1},
            {0, 1, 0, 0, -1}, {0, 1, 4, 0, 2}, {0, 1, 0, 1, 2}, {0, 1, 6, 0, 0}, {0, 1, 0, 3, 0}, {0, 1, huge, 0, huge},
            {0, 1, 1, 1, huge}, {0, 1, huge, huge, 1}, {0, 1, Integer.MIN_VALUE, 0, Integer.MIN_VALUE}};
        for (int[] b : bad) {
            CHECK.due("copy, bad", x.copy(b[0], b[1], b[2], b[3], b[4]), -2);
        }
        CHECK.due("refused -2", x.status(12), bad.length);
        CHECK.due("two sorts, ahead of bad", x.copy(0, 2, -1, 0, 0), -3);
        CHECK.due("coachman", x.copy(3, 0, 0, 0, 0), -3);
        CHECK.due("coachman", x.copy(0, 3, 0, 0, 0), -3);
        CHECK.due("coachman, ahead of nothing", x.copy(7, 3, 0, 0, 0), -3);
        CHECK.due("coachman, ahead of nothing", x.copy(3, 7, 0, 0, 0), -3);
        CHECK.due("nothing, ahead of bad", x.copy(7, 0, -1, 0, 0), -4);
        CHECK.due("nothing", x.copy(0, 7, 0, 0, 0), -4);
        CHECK.due("nothing", x.copy(6, 7, 0, 0, 0), -4);
    }

    private static void element() {
        CHECK.promise(5);
        ThreeStrangers x = new ThreeStrangers();
        Check.rowOf(x, 0, 0, 127, 128, -129);
        x.coachman(1, 1, 9);
        CHECK.due("element", x.element(0, 0), 127);
        CHECK.due("element", x.element(0, 1), -128);
        CHECK.due("element", x.element(0, 2), 127);
        int[][] none = {{0, 3}, {0, -1}, {1, 0}, {2, 0}, {-1, 0}, {8, 0}, {0, 40}, {0, Integer.MAX_VALUE}};
        for (int[] n : none) {
            CHECK.due("none", x.element(n[0], n[1]), 0);
        }
        x.row(3, 3, 40);
        x.set(3, 39, Long.MIN_VALUE);
        CHECK.due("the last of all", x.element(3, 39), Long.MIN_VALUE);
        CHECK.due("behind the last of all", x.element(3, 40), 0);
        for (int what = 12; what < 17; what++) {
            CHECK.due("nothing is refused", x.status(what), 0);
        }
    }

    private static void holds() {
        CHECK.promise(6);
        ThreeStrangers x = new ThreeStrangers();
        for (int kind = 1; kind < 6; kind++) {
            x.coachman(kind, kind, 0);
            CHECK.due("holds", x.holds(kind), 10 + kind);
        }
        CHECK.due("nothing", x.holds(0), -1);
        CHECK.due("no shelf", x.holds(8), -1);
        CHECK.due("no shelf", x.holds(-1), -1);
        CHECK.due("not refused", x.status(12), 0);
        CHECK.due("held", x.status(9), 5);
        x.row(1, 0, 0);
        x.row(7, 0, 0);
        CHECK.due("held", x.status(9), 6);
    }

    private static void coachman() {
        CHECK.promise(7);
        ThreeStrangers x = new ThreeStrangers();
        CHECK.due("coachman", x.coachman(0, 3, 9), 1);
        CHECK.due("his a", x.says(0, 0), 9);
        int[][] bad = {{-1, 1, 0}, {8, 1, 0}, {0, 0, 0}, {0, 6, 0}, {0, -1, 0}, {0, 1, -1}, {0, 1, 10}};
        for (int[] b : bad) {
            CHECK.due("coachman, bad", x.coachman(b[0], b[1], b[2]), -2);
        }
        CHECK.due("refused", x.status(12), bad.length);
        CHECK.due("as he was", x.holds(0), 13);
        x.row(1, 2, 3);
        CHECK.due("for a row", x.coachman(1, 2, 4), 1);
        CHECK.due("for a row", x.holds(1), 12);
        CHECK.due("the row is gone", x.judge(1, 0), -3);
    }

    /** Four people, two of whom know each other; each kind sends another pair. */
    private static void says() {
        CHECK.promise(8);
        ThreeStrangers x = Check.townOf("person 1 1;person 2 2;person 3 9;person 4 8;seats 2;know 0 1;know 2 3;know 1 3");
        for (int kind = 1; kind < 6; kind++) {
            x.coachman(kind, kind, kind);
        }
        // strangers: 0-2, 0-3, 1-2; 0 and 2 have two strangers, 1 and 3 have one
        int[] due = {0, 5, 6, 5, 9, 9};
        x.change(0, 1, 0);
        for (int kind = 1; kind < 6; kind++) {
            CHECK.due("says his a", x.says(kind, 0), kind);
            CHECK.due("says of kind " + kind, x.says(kind, kind), due[kind]);
        }
        CHECK.due("waits as first", x.says(3, 1), 5);
        CHECK.due("spares as choose", x.says(4, 2), 9);
        CHECK.due("best as choose", x.says(5, 2), 9);
        x.meet(15);
        CHECK.due("none", x.says(1, 1), 0);
        CHECK.due("none", x.says(5, 5), 0);
    }

    private static void saysRefused() {
        ThreeStrangers x = Check.crowd(3, 3);
        for (int kind = 1; kind < 6; kind++) {
            x.coachman(kind, kind, 9);
        }
        CHECK.due("all in the yard, nobody to come", x.says(3, 3), 7);
        int[][] other = {{1, 2}, {1, 3}, {1, 4}, {1, 5}, {2, 1}, {2, 3}, {2, 4}, {2, 5}, {3, 2}, {3, 4}, {3, 5},
            {4, 1}, {4, 3}, {4, 5}, {5, 1}, {5, 3}, {5, 4}};
        for (int[] o : other) {
            CHECK.due("says, no such kind", x.says(o[0], o[1]), -3);
        }
        x.row(6, 0, 1);
        CHECK.due("a row", x.says(6, 0), -3);
        CHECK.due("nothing", x.says(7, 3), -4);
        CHECK.due("kind, ahead of other", x.says(6, 6), -2);
        CHECK.due("kind, ahead of nothing", x.says(7, -1), -2);
        CHECK.due("shelf", x.says(8, 0), -2);
        CHECK.due("shelf", x.says(-1, 0), -2);
    }
}
