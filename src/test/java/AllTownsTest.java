import java.util.ArrayList;
import java.util.List;

/**
 * What depends on who knows whom alone, by tables over all ways in which people can be strangers (21 pairs, a bit each):
 * every town of up to five people, and of those of six and seven one in so many, spread over all of them.
 *
 * <p>A table is filled from the fewest strangers on, so nothing is searched: it reaches the towns of many strangers for
 * which Model would not come to an end.
 */
public final class AllTownsTest {
    private static final Check CHECK = new Check("AllTownsTest");
    private static final int PEOPLE = 7;
    private static final int TOWNS = 1 << pairsOf(PEOPLE);
    private static final int[] STRIDES = {1, 1, 1, 1, 1, 1, 7, 211};

    private final int seats;
    private final List<Integer> groups = new ArrayList<>();
    private final byte[] longest = new byte[TOWNS];
    private final byte[] soonest = new byte[TOWNS];

    private AllTownsTest(int seats) {
        this.seats = seats;
        for (int set = 0; set < 1 << PEOPLE; set++) {
            if (Integer.bitCount(set) == seats) {
                groups.add(pairsIn(set));
            }
        }
        for (int strangers = 0; strangers < TOWNS; strangers++) {
            fill(strangers);
        }
    }

    public static void main(String[] args) {
        for (int seats = 2; seats <= 4; seats++) {
            AllTownsTest test = new AllTownsTest(seats);
            for (int people = 0; people <= PEOPLE; people++) {
                int last = (1 << pairsOf(people)) - 1;
                for (int strangers = last; strangers >= 0; strangers -= STRIDES[people]) {
                    test.oneTown(people, strangers);
                }
            }
        }
        CHECK.end();
    }

    private static int pairsOf(int people) {
        return people * (people - 1) / 2;
    }

    /** Pairs of the first few people have the lowest bits. */
    private static int pair(int p, int q) {
        return 1 << pairsOf(Math.max(p, q)) + Math.min(p, q);
    }

    private static int pairsIn(int set) {
        int bits = 0;
        for (int q = 0; q < PEOPLE; q++) {
            for (int p = 0; p < q; p++) {
                bits |= (set >> p & set >> q & 1) != 0 ? pair(p, q) : 0;
            }
        }
        return bits;
    }

    private void fill(int strangers) {
        int most = 0;
        int fewest = 0;
        for (int group : groups) {
            if ((group & strangers) == group) {
                most = Math.max(most, 1 + longest[strangers ^ group]);
                int then = 1 + soonest[strangers ^ group];
                fewest = fewest == 0 ? then : Math.min(fewest, then);
            }
        }
        longest[strangers] = (byte) most;
        soonest[strangers] = (byte) fewest;
    }

    private int groupsOf(int strangers) {
        int count = 0;
        for (int group : groups) {
            count += (group & strangers) == group ? 1 : 0;
        }
        return count;
    }

    private void oneTown(int people, int strangers) {
        ThreeStrangers x = Check.crowd(people, seats);
        for (int q = 0; q < people; q++) {
            for (int p = 0; p < q; p++) {
                if ((strangers & pair(p, q)) == 0) {
                    x.know(p, q, 0);
                }
            }
        }
        String town = seats + " seats, " + people + " people, strangers " + strangers + ": ";
        int all = (1 << people) - 1;
        CHECK.promise(19);
        CHECK.due(town + "groups", x.groups(all), groupsOf(strangers));
        CHECK.promise(31);
        CHECK.due(town + "ever(0)", x.ever(0), longest[strangers]);
        CHECK.due(town + "ever(1)", x.ever(1), soonest[strangers]);
        feast(x, town, strangers, 37 * strangers + 11 & all);
        feast(x, town, strangers, all);
        worst(x, town, people, strangers);
        if (people <= 5) {
            secrets(x, town, people, strangers);
        }
    }

    private void feast(ThreeStrangers x, String town, int strangers, int set) {
        CHECK.promise(33);
        int then = strangers & ~pairsIn(set);
        CHECK.due(town + "feast(" + set + ")", x.feast(set), longest[strangers] - longest[then]);
    }

    /** Promises 34 and 35. */
    private void worst(ThreeStrangers x, String town, int people, int strangers) {
        int due = -5;
        int mostClosed = -1;
        for (int p = 0; p < people; p++) {
            for (int q = p + 1; q < people; q++) {
                int closed = groupsOf(strangers) - groupsOf(strangers & ~pair(p, q));
                if ((strangers & pair(p, q)) != 0 && closed > mostClosed) {
                    mostClosed = closed;
                    due = 10 * p + q;
                }
                CHECK.promise(34);
                CHECK.due(town + "closes(" + q + ", " + p + ")", x.closes(q, p), closed);
            }
        }
        CHECK.promise(35);
        CHECK.due(town + "worst", x.worst(), due);
    }

    /** Promises 36 and 37, of all people: whoever is still a stranger in secret, no group may be left. */
    private void secrets(ThreeStrangers x, String town, int people, int strangers) {
        int ways = 0;
        int[] known = new int[pairsOf(PEOPLE)];
        for (int still = strangers; still >= 0; still = still == 0 ? -1 : still - 1 & strangers) {
            if (soonest[still] == 0) {
                ways++;
                for (int k = 0; k < known.length; k++) {
                    known[k] += (strangers & ~still) >> k & 1;
                }
            }
        }
        int due = -5;
        int mostKnown = -1;
        for (int p = 0; p < people; p++) {
            for (int q = p + 1; q < people; q++) {
                int ofTwo = known[Integer.numberOfTrailingZeros(pair(p, q))];
                if ((strangers & pair(p, q)) != 0 && ofTwo > mostKnown) {
                    mostKnown = ofTwo;
                    due = 10 * p + q;
                }
            }
        }
        int all = (1 << people) - 1;
        CHECK.promise(36);
        CHECK.due(town + "fits", x.fits(all), ways);
        CHECK.promise(37);
        CHECK.due(town + "sure", x.sure(all), due);
    }
}
