import java.io.IOException;
import java.lang.reflect.Method;
import java.lang.reflect.Modifier;
import java.nio.file.Files;
import java.nio.file.Path;
import java.util.ArrayList;
import java.util.HashMap;
import java.util.List;
import java.util.Map;
import java.util.Set;

/**
 * Runs of calls on new objects, told as texts, each under the sentence of the document that it holds the program to.
 * Behind every refused call it is looked whether just this refusal was counted and all else is as it was; behind every
 * question, whether all is as it was. No run is longer than the document lets an object be used.
 *
 * <p>A step of a run: {@code name(1, 2) = 3} with the answer that is due, {@code name(1, 2)} without one,
 * {@code "text"} in quotes onto the tape, or {@code crowd(5)}: so many people at hour 0, of cost 1. Numbers may be sums,
 * MIN and MAX (of ints), LOW and HIGH (of longs).
 */
final class Edges {
    private static final int MOST_CALLS = 512;
    private static final Path DOCUMENT = Path.of("../shared/DOC.md");
    private static final Set<String> NEVER_REFUSED =
        Set.of("element", "holds", "wipe", "hire", "year", "seed", "image", "status");
    private static final Set<String> QUESTIONS =
        Set.of("element", "holds", "says", "personOf", "knownOf", "isGroup", "groups", "firstOf", "most", "mostOf", "sends", "run",
            "coach", "left", "waits", "least", "head", "days", "ever", "hire", "feast", "closes", "worst", "fits", "sure", "judge",
            "behind", "status");

    /** One call of a run; due is null where any answer will do. */
    private record Step(Method method, Object[] numbers, Long due, String text) {
        long callOn(ThreeStrangers x) {
            try {
                return ((Number) method.invoke(x, numbers)).longValue();
            } catch (ReflectiveOperationException e) {
                throw new IllegalStateException(text, e);
            }
        }

        boolean isRefusal(long answer) {
            boolean isOne = answer >= -6 && answer <= -2 || method.getName().equals("town") && answer <= -20;
            return isOne && !NEVER_REFUSED.contains(method.getName());
        }
    }

    private final Map<String, Method> face = new HashMap<>();
    private final Map<Integer, String> document = new HashMap<>();
    private final Map<Integer, String> unquoted = new HashMap<>();
    private int promise;
    private String sentence = "";
    private int runsOfSentence = 1;
    private int sentences;
    private int checked;
    private int wrong;

    Edges() throws IOException {
        for (Method m : ThreeStrangers.class.getDeclaredMethods()) {
            if (Modifier.isPublic(m.getModifiers())) {
                face.put(m.getName(), m);
            }
        }
        if (Files.exists(DOCUMENT)) {
            readDocument(Files.readString(DOCUMENT));
        }
    }

    private void readDocument(String text) {
        String promised = text.substring(text.indexOf("## Terms"), text.indexOf("## Not promised"));
        String use = text.substring(text.indexOf("An object is used"), text.indexOf("## The public face"));
        String[] parts = promised.split("## Promise ");
        for (int i = 0; i < parts.length; i++) {
            String body = i == 0 ? use + parts[i].substring("## Terms".length()) : parts[i].substring(parts[i].indexOf("`: ") + 3);
            String plain = body.replaceAll("```(text)?|====", " ").replaceAll("\\s+", " ");
            document.put(i, plain);
            unquoted.put(i, plain);
        }
    }

    /** The runs behind hold to the "Terms" of the document. */
    void terms() {
        promise = 0;
    }

    /** The runs behind hold to a promise. */
    void promise(int number) {
        promise = number;
    }

    /** The runs behind would go wrong if this sentence of the document were broken. */
    void sentence(String text) {
        endSentence();
        sentence = text;
        sentences++;
        runsOfSentence = 0;
        if (!document.isEmpty()) {
            check("the document says so", document.getOrDefault(promise, "").contains(text));
            unquoted.merge(promise, text, (rest, quoted) -> rest.replaceFirst(java.util.regex.Pattern.quote(quoted), "|"));
        }
    }

    private void endSentence() {
        check("a sentence has a run", runsOfSentence > 0);
    }

    private void check(String what, boolean so) {
        checked++;
        if (!so) {
            wrong++;
            String where = promise == 0 ? "terms" : "promise " + promise;
            System.out.println(where + ", \"" + sentence + "\": " + what);
        }
    }

    /** A run of calls on a new object. */
    void run(String... texts) {
        runsOfSentence++;
        List<Step> steps = new ArrayList<>();
        for (String text : texts) {
            parse(text, steps);
        }
        check("too long a run", steps.size() + 5 <= MOST_CALLS);
        long[] answers = answer(steps);
        for (int k = 0; k < steps.size(); k++) {
            Step step = steps.get(k);
            if (step.isRefusal(answers[k])) {
                lookBehindRefusal(steps, k, answers[k]);
            } else if (QUESTIONS.contains(step.method.getName())) {
                lookBehindQuestion(steps, k);
            }
        }
    }

    private long[] answer(List<Step> steps) {
        ThreeStrangers x = new ThreeStrangers();
        long[] answers = new long[steps.size()];
        int[] refused = new int[5];
        for (int k = 0; k < answers.length; k++) {
            Step step = steps.get(k);
            answers[k] = step.callOn(x);
            check(step.text + " answered " + answers[k], step.due == null || step.due == answers[k]);
            if (step.isRefusal(answers[k])) {
                refused[placeOf(answers[k])]++;
            }
        }
        for (int i = 0; i < refused.length; i++) {
            int counted = x.status(12 + i);
            check("refusals counted at the end, " + (-2 - i) + ": " + counted + " for " + refused[i], counted == refused[i]);
        }
        return answers;
    }

    private static int placeOf(long refusal) {
        return refusal <= -20 ? 0 : (int) (-2 - refusal);
    }

    private void lookBehindQuestion(List<Step> steps, int k) {
        for (Look look : Look.values()) {
            List<Long> ahead = look(steps, k, "", look);
            List<Long> behind = look(steps, k + 1, "", look);
            check(steps.get(k).text + " changed something, " + look + ": " + ahead + behind, ahead.equals(behind));
        }
    }

    private void lookBehindRefusal(List<Step> steps, int k, long refusal) {
        Step step = steps.get(k);
        // a town that can't be read empties the tape, and nothing more
        String instead = step.method.getName().equals("town") ? "wipe()" : "";
        for (Look look : Look.values()) {
            List<Long> ahead = look(steps, k, instead, look);
            List<Long> behind = look(steps, k + 1, "", look);
            ahead.set(placeOf(refusal), ahead.get(placeOf(refusal)) + 1);
            check(step.text + ", refused, changed something, " + look + ": " + ahead + behind, ahead.equals(behind));
        }
    }

    private enum Look { TOWN, ROWS, TAPE, IMAGE }

    /** What can be seen behind the first steps of a run, on an object of its own; the counts of refusals come first. */
    private List<Long> look(List<Step> steps, int size, String instead, Look look) {
        ThreeStrangers x = new ThreeStrangers();
        List<Step> all = new ArrayList<>(steps.subList(0, size));
        if (!instead.isEmpty()) {
            parse(instead, all);
        }
        for (Step step : all) {
            step.callOn(x);
        }
        List<Long> seen = new ArrayList<>();
        for (int what = 12; what <= 16; what++) {
            seen.add((long) x.status(what));
        }
        switch (look) {
            case TAPE -> seen.add((long) x.town());
            case IMAGE -> seen.add((long) x.back());
            default -> { }
        }
        int calls = all.size() + (look == Look.ROWS ? seeRows(x, seen) : seeTown(x, seen)) + 6;
        check("too long a run", calls <= MOST_CALLS);
        return seen;
    }

    private static int seeRows(ThreeStrangers x, List<Long> seen) {
        int calls = 8;
        for (int s = 0; s < 8; s++) {
            int held = x.holds(s);
            seen.add((long) held);
            if (held >= 0 && held < 5) {
                int size = 0;
                // as many as can be copied onto themselves, by halves
                for (int half = 32; half > 0; half /= 2, calls++) {
                    size += x.copy(s, s, 0, 0, size + half) > 0 ? half : 0;
                }
                seen.add((long) size);
                for (int i = 0; i < size; i++, calls++) {
                    seen.add(x.element(s, i));
                }
            }
        }
        return calls;
    }

    private static int seeTown(ThreeStrangers x, List<Long> seen) {
        int people = x.status(0);
        for (int what = 0; what <= 9; what++) {
            seen.add((long) x.status(what));
        }
        for (int s = 0; s < 8; s++) {
            seen.add((long) x.holds(s));
            seen.add((long) (x.holds(s) > 10 ? x.says(s, 0) : 0));
        }
        int calls = 11 + 24;
        for (int p = 0; p < people; p++) {
            seen.add((long) x.personOf(p, 0));
            seen.add((long) x.personOf(p, 1));
            for (int q = 0; q < p; q++, calls++) {
                seen.add((long) x.knownOf(p, q));
            }
            calls += 2;
        }
        return calls;
    }

    private void parse(String text, List<Step> into) {
        if (text.startsWith("\"")) {
            for (int i = 1; i < text.length() - 1; i++) {
                into.add(new Step(face.get("feed"), new Object[] {(int) text.charAt(i)}, null, text));
            }
            return;
        }
        int open = text.indexOf('(');
        int close = text.indexOf(')');
        String name = text.substring(0, open);
        String[] told = open + 1 == close ? new String[0] : text.substring(open + 1, close).split(",");
        if (name.equals("crowd")) {
            for (long n = number(told[0]); n > 0; n--) {
                into.add(new Step(face.get("person"), new Object[] {0, 1}, null, text));
            }
            return;
        }
        Method method = face.get(name);
        Object[] numbers = new Object[told.length];
        for (int i = 0; i < told.length; i++) {
            boolean isLong = method.getParameterTypes()[i] == long.class;
            numbers[i] = isLong ? (Object) number(told[i]) : (Object) Math.toIntExact(number(told[i]));
        }
        int is = text.indexOf('=');
        into.add(new Step(method, numbers, is < 0 ? null : (Long) number(text.substring(is + 1)), text));
    }

    private static long number(String text) {
        long sum = 0;
        for (String part : text.trim().split("\\+")) {
            sum += switch (part.trim()) {
                case "MIN" -> Integer.MIN_VALUE;
                case "MAX" -> Integer.MAX_VALUE;
                case "LOW" -> Long.MIN_VALUE;
                case "HIGH" -> Long.MAX_VALUE;
                default -> Long.parseLong(part.trim());
            };
        }
        return sum;
    }

    /** Every sentence of the document has been quoted, so none is without a test. */
    void end() {
        endSentence();
        for (int i = 0; i < document.size(); i++) {
            String rest = unquoted.get(i);
            promise = i;
            sentence = rest;
            check("no test quotes this", rest.replaceAll("[^A-Za-z0-9]", "").isEmpty());
        }
        System.out.println("EdgesTest: " + sentences + " sentences, " + checked + " checks, " + wrong + " wrong");
        if (wrong != 0) {
            System.exit(1);
        }
    }
}
