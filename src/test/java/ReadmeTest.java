import java.lang.reflect.Method;
import java.lang.reflect.Modifier;
import java.nio.file.Files;
import java.nio.file.Path;
import java.util.HashMap;
import java.util.Map;
import java.util.regex.Matcher;
import java.util.regex.Pattern;

/** README.md names every call, and its examples answer what it says. */
public final class ReadmeTest {
    private static final Check CHECK = new Check("ReadmeTest");
    private static final Pattern CALL = Pattern.compile("x\\.(\\w+)\\((.*)\\); +// (-?\\d+).*");
    private static final Pattern FED = Pattern.compile("for \\(char c : \"(.*)\"\\.toCharArray\\(\\)\\) x\\.feed\\(c\\);");

    private static final Map<String, Method> FACE = new HashMap<>();

    public static void main(String[] args) throws Exception {
        for (Method m : ThreeStrangers.class.getDeclaredMethods()) {
            if (Modifier.isPublic(m.getModifiers())) {
                FACE.put(m.getName(), m);
            }
        }
        String page = Files.readString(Path.of("README.md"));
        for (String name : FACE.keySet()) {
            CHECK.holds("README.md names " + name, page.contains("`" + name + "`"));
        }
        int examples = 0;
        for (String part : page.split("```")) {
            if (part.startsWith("java\n")) {
                example(part.substring("java\n".length()));
                examples++;
            }
        }
        CHECK.holds("README.md has examples", examples == 2);
        CHECK.end();
    }

    private static void example(String code) throws Exception {
        ThreeStrangers x = null;
        for (String line : code.split("\n")) {
            Matcher call = CALL.matcher(line);
            Matcher fed = FED.matcher(line);
            if (line.equals("ThreeStrangers x = new ThreeStrangers();")) {
                x = new ThreeStrangers();
            } else if (fed.matches()) {
                Check.type(x, fed.group(1));
            } else if (call.matches()) {
                CHECK.due(line, answer(x, call.group(1), call.group(2)), Long.parseLong(call.group(3)));
            } else {
                CHECK.holds("a line that is understood: " + line, false);
            }
        }
    }

    private static long answer(ThreeStrangers x, String name, String told) throws Exception {
        String[] words = told.isEmpty() ? new String[0] : told.split(", ");
        Object[] numbers = new Object[words.length];
        for (int i = 0; i < words.length; i++) {
            numbers[i] = Integer.parseInt(words[i]);
        }
        return ((Number) FACE.get(name).invoke(x, numbers)).longValue();
    }
}
