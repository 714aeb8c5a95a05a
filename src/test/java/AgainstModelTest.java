import java.lang.reflect.Method;
import java.util.ArrayList;
import java.util.Arrays;
import java.util.Comparator;
import java.util.HashMap;
import java.util.List;
import java.util.Map;
import java.util.Random;

/** All promises: runs of calls by chance (always the same), on the program and on the model side by side. */
public final class AgainstModelTest {
    private static final int RUNS = 300;
    private static final int CALLS = 300;

    private final Random random;
    private final Map<String, Method> ofModel = new HashMap<>();
    private final List<Method> calls = new ArrayList<>();
    private final Map<String, Integer> answered = new HashMap<>();
    private long lastAnswer;
    private int wrong;

    private AgainstModelTest(long seed) {
        random = new Random(seed);
        for (Method m : ThreeStrangers.class.getDeclaredMethods()) {
            if (java.lang.reflect.Modifier.isPublic(m.getModifiers())) {
                calls.add(m);
            }
        }
        calls.sort(Comparator.comparing(Method::getName));
        for (Method m : Model.class.getDeclaredMethods()) {
            if (!java.lang.reflect.Modifier.isPrivate(m.getModifiers())) {
                ofModel.put(m.getName() + Arrays.toString(m.getParameterTypes()), m);
            }
        }
    }

    public static void main(String[] args) throws Exception {
        AgainstModelTest test = new AgainstModelTest(20261118);
        for (int run = 0; run < RUNS && test.wrong == 0; run++) {
            test.oneRun(run);
        }
        for (Method m : test.calls) {
            if (test.answered.getOrDefault(m.getName(), 0) < 100) {
                System.out.println("too few calls of " + m.getName());
                test.wrong++;
            }
        }
        System.out.println("AgainstModelTest: " + test.answered.values().stream().mapToInt(i -> i).sum() + " calls, " + test.wrong + " wrong");
        if (test.wrong != 0) {
            System.exit(1);
        }
    }

    private void oneRun(int run) throws Exception {
        ThreeStrangers x = new ThreeStrangers();
        Model y = new Model();
        StringBuilder story = new StringBuilder("run " + run + ":\n");
        begin(x, y, story);
        for (int i = 0; i < CALLS && wrong == 0; i++) {
            if (random.nextInt(25) == 0) {
                tell(x, y, story);
            } else if (random.nextInt(15) == 0) {
                tellDay(x, y, story);
            } else {
                Method m = calls.get(random.nextInt(calls.size()));
                int people = x.status(0);
                call(x, y, m, argumentsFor(m, people), story);
            }
        }
        if (wrong != 0) {
            System.out.println(story);
        }
    }

    /** A town with people and coachmen, so that most calls have something to answer. */
    private void begin(ThreeStrangers x, Model y, StringBuilder story) throws Exception {
        call(x, y, named("seed"), new Object[] {random.nextInt()}, story);
        call(x, y, named("come"), new Object[] {1 + random.nextInt(7)}, story);
        for (int i = random.nextInt(8); i > 0; i--) {
            call(x, y, named("know"), new Object[] {random.nextInt(7), random.nextInt(7), -1}, story);
        }
        for (int s = 0; s < 5; s++) {
            call(x, y, named("coachman"), new Object[] {s, 1 + random.nextInt(5), random.nextInt(10)}, story);
        }
        call(x, y, named("row"), new Object[] {5, random.nextInt(4), 1 + random.nextInt(7)}, story);
    }

    private Method named(String name) {
        return calls.stream().filter(m -> m.getName().equals(name)).findFirst().orElseThrow();
    }

    private void call(ThreeStrangers x, Model y, Method m, Object[] arguments, StringBuilder story) throws Exception {
        String name = m.getName();
        if (tooDear(x, name)) {
            return;
        }
        Method other = ofModel.get(name + Arrays.toString(m.getParameterTypes()));
        long got = ((Number) m.invoke(x, arguments)).longValue();
        long want = ((Number) other.invoke(y, arguments)).longValue();
        lastAnswer = got;
        story.append(name).append(Arrays.toString(arguments)).append(" = ").append(got).append('\n');
        answered.merge(name, 1, Integer::sum);
        if (got != want) {
            wrong++;
            story.append("due is ").append(want);
        }
    }

    /** The model tries all rows one by one: with many strangers it would not come to an end. */
    private boolean tooDear(ThreeStrangers x, String name) {
        boolean isDear = name.equals("ever") || name.equals("feast");
        int strangers = x.status(3);
        return isDear && (x.status(1) == 2 && strangers > 8 || strangers > 14 && random.nextInt(10) != 0);
    }

    private boolean seldom() {
        return random.nextInt(20) == 0;
    }

    private int among(int low, int high) {
        if (seldom()) {
            int[] odd = {low - 1, high + 1, Integer.MIN_VALUE, Integer.MAX_VALUE, -1, 0};
            return odd[random.nextInt(odd.length)];
        }
        return high < low ? low : low + random.nextInt(high - low + 1);
    }

    private int man() {
        return among(0, random.nextInt(4) == 0 ? 7 : 4);
    }

    private int rowShelf() {
        return random.nextInt(4) == 0 ? among(0, 7) : 5;
    }

    private int shelf() {
        return random.nextInt(2) == 0 ? among(5, 7) : among(0, 7);
    }

    private int years() {
        return random.nextInt(3) == 0 ? -1 : among(-1, random.nextBoolean() ? 5 : 99);
    }

    private long item(int people) {
        switch (random.nextInt(6)) {
            case 0:
                return random.nextLong();
            case 1:
                return among(0, (1 << people) - 1);
            default:
                int bits = 0;
                for (int i = 0; i < 3 && people > 0; i++) {
                    bits |= 1 << random.nextInt(people);
                }
                return bits;
        }
    }

    private Object[] argumentsFor(Method m, int people) {
        int last = people - 1;
        int all = (1 << people) - 1;
        int set = random.nextInt(3) == 0 ? all : among(0, all);
        int told = random.nextInt(3) == 0 ? among(0, 7) : random.nextInt(3);
        switch (m.getName()) {
            case "row": return new Object[] {shelf(), among(0, 4), among(0, random.nextBoolean() ? 7 : 40)};
            case "set": return new Object[] {rowShelf(), among(0, 6), item(people)};
            case "copy": return new Object[] {shelf(), shelf(), among(0, 5), among(0, 5), among(0, 4)};
            case "element": return new Object[] {rowShelf(), among(0, 7)};
            case "holds": return new Object[] {among(0, 7)};
            case "coachman": return new Object[] {man(), among(1, 5), among(0, 9)};
            case "says": return new Object[] {man(), among(0, 5)};
            case "person": return new Object[] {among(0, 23), among(0, 9)};
            case "change": return new Object[] {among(0, last), among(0, 1), among(0, random.nextBoolean() ? 23 : 9)};
            case "know": return new Object[] {among(0, last), among(0, last), years()};
            case "ask": return random.nextBoolean() ? new Object[] {0, random.nextInt(3) > 0 ? 3 : among(2, 4)} : new Object[] {among(0, 1), among(0, 6)};
            case "feed": return new Object[] {random.nextBoolean() ? " ;0123abc".charAt(random.nextInt(9)) + 0 : among(0, 255)};
            case "personOf": return new Object[] {among(0, last), among(0, 3)};
            case "knownOf": case "closes": return new Object[] {among(0, last), among(0, last)};
            case "mostOf": return new Object[] {set, among(0, 3)};
            case "sends": return new Object[] {man(), set, among(0, 7)};
            case "coach": return new Object[] {man(), among(0, 3)};
            case "waits": return new Object[] {man(), among(-1, last)};
            case "run": case "left": case "days": case "day": return new Object[] {man()};
            case "least": case "ever": return new Object[] {among(0, 1)};
            case "fits": case "sure": return new Object[] {seldom() ? set : set & ~(1 << random.nextInt(7)) & ~(1 << random.nextInt(7))};
            case "isGroup": return new Object[] {random.nextBoolean() ? set : (int) item(people)};
            case "meet": return new Object[] {random.nextInt(3) == 0 ? set : 0};
            case "judge": case "rides": return new Object[] {rowShelf(), told};
            case "behind": return new Object[] {rowShelf(), told, among(0, 1)};
            case "come": return new Object[] {among(1, 7)};
            case "seed": return new Object[] {random.nextInt()};
            case "status": return new Object[] {among(-1, 18)};
            case "groups": case "firstOf": case "most": case "feast": return new Object[] {set};
            default: return new Object[] {};
        }
    }

    /** The coaches of a coachman's day come into a row and are judged, or come to pass. */
    private void tellDay(ThreeStrangers x, Model y, StringBuilder story) throws Exception {
        call(x, y, named("row"), new Object[] {5, random.nextInt(4), 4}, story);
        int n = 0;
        for (int s = random.nextInt(5), i = 0; i < 3; i++) {
            call(x, y, named("coach"), new Object[] {s, i}, story);
            long group = lastAnswer < 0 || seldom() ? item(x.status(0)) : lastAnswer;
            n += lastAnswer < 0 ? 0 : 1;
            call(x, y, named("set"), new Object[] {5, i, group}, story);
        }
        call(x, y, named("judge"), new Object[] {5, random.nextInt(5)}, story);
        call(x, y, named("behind"), new Object[] {5, n, random.nextInt(2)}, story);
        if (random.nextInt(3) == 0) {
            call(x, y, named("rides"), new Object[] {5, n}, story);
        }
    }

    /** A text, right or nearly so, comes onto the tape and is read. */
    private void tell(ThreeStrangers x, Model y, StringBuilder story) throws Exception {
        StringBuilder text = new StringBuilder();
        int people = x.status(0);
        for (int i = random.nextInt(6); i >= 0; i--) {
            text.append(statement(people)).append(i > 0 || seldom() ? blanks() + ";" + blanks() : blanks());
        }
        for (int i = random.nextInt(3) == 0 ? 1 : 0; i > 0 && text.length() > 0; i--) {
            int at = random.nextInt(text.length());
            String odd = " ;;0199aknow since person met 7 5A,";
            switch (random.nextInt(3)) {
                case 0 -> text.deleteCharAt(at);
                case 1 -> text.insert(at, odd.charAt(random.nextInt(odd.length())));
                default -> text.setLength(at);
            }
        }
        call(x, y, named("wipe"), new Object[] {}, story);
        for (int i = 0; i < text.length(); i++) {
            call(x, y, named("feed"), new Object[] {(int) text.charAt(i)}, story);
        }
        call(x, y, named("town"), new Object[] {}, story);
    }

    private String blanks() {
        return " ".repeat(random.nextInt(3) == 0 ? random.nextInt(3) : 0);
    }

    private String number(int low, int high) {
        int v = seldom() ? low + random.nextInt(2 * (high - low) + 3) : low + random.nextInt(Math.max(1, high - low + 1));
        String digits = Integer.toString(Math.max(0, v));
        return " " + (seldom() ? "0" + digits : digits) + blanks();
    }

    private String statement(int people) {
        int last = Math.max(0, people - 1);
        String two = number(0, last) + number(0, last);
        switch (random.nextInt(6)) {
            case 0: return "person" + number(0, 23) + number(0, 9);
            case 1: return "know" + two + (random.nextBoolean() ? " since" + number(0, 99) : "");
            case 2: return "strange" + two;
            case 3: return "seats" + number(2, 4);
            case 4: return "memory" + number(0, 99);
            default: return "met" + (random.nextBoolean() ? two : number(0, last)) + (random.nextInt(3) == 0 ? number(0, last) : "");
        }
    }
}
