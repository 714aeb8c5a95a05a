/** What the project's tests share: answers that are due, and how a text comes onto the tape. */
final class Check {
    private final String name;
    private int promise;
    private int checked;
    private int wrong;

    Check(String name) {
        this.name = name;
    }

    void promise(int number) {
        promise = number;
    }

    void due(String call, long got, long want) {
        checked++;
        if (got != want) {
            wrong++;
            System.out.println("promise " + promise + ": " + call + " answered " + got + ", due is " + want);
        }
    }

    void holds(String what, boolean so) {
        due(what, so ? 1 : 0, 1);
    }

    void end() {
        System.out.println(name + ": " + checked + " checks, " + wrong + " wrong");
        if (wrong != 0) {
            System.exit(1);
        }
    }

    static void type(ThreeStrangers x, String text) {
        for (int i = 0; i < text.length(); i++) {
            x.feed(text.charAt(i));
        }
    }

    static int read(ThreeStrangers x, String text) {
        type(x, text);
        return x.town();
    }

    static ThreeStrangers townOf(String text) {
        ThreeStrangers x = new ThreeStrangers();
        if (read(x, text) < 0) {
            throw new IllegalStateException("no town: " + text);
        }
        return x;
    }

    /** So many people, all strangers, all at hour 0 and of cost 1. */
    static ThreeStrangers crowd(int people, int seats) {
        ThreeStrangers x = new ThreeStrangers();
        for (int i = 0; i < people; i++) {
            x.person(0, 1);
        }
        x.ask(0, seats);
        return x;
    }

    static void rowOf(ThreeStrangers x, int s, int sort, long... items) {
        x.row(s, sort, items.length);
        for (int i = 0; i < items.length; i++) {
            x.set(s, i, items[i]);
        }
    }
}
