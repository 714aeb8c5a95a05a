import java.lang.reflect.Member;
import java.lang.reflect.Modifier;
import java.nio.file.Files;
import java.nio.file.Path;
import java.util.ArrayList;
import java.util.Arrays;
import java.util.List;
import java.util.TreeSet;
import java.util.regex.Matcher;
import java.util.regex.Pattern;

/** The face of the document and the rules of LANGUAGE.md that a look at the class and its text can tell. */
public final class LanguageTest {
    private static final Check CHECK = new Check("LanguageTest");
    private static final String[] FACE = {
        "int row(int,int,int)", "int set(int,int,long)", "int copy(int,int,int,int,int)", "long element(int,int)", "int holds(int)",
        "int coachman(int,int,int)", "int says(int,int)", "int person(int,int)", "int change(int,int,int)", "int know(int,int,int)",
        "int ask(int,int)", "int feed(int)", "int wipe()", "int town()", "int personOf(int,int)", "int knownOf(int,int)",
        "int isGroup(int)", "int groups(int)", "int firstOf(int)", "int most(int)", "int mostOf(int,int)", "int sends(int,int,int)",
        "int run(int)", "int coach(int,int)", "int left(int)", "int waits(int,int)", "int least(int)", "int head()", "int days(int)",
        "int ever(int)", "int hire()", "int feast(int)", "int closes(int,int)", "int worst()", "int fits(int)", "int sure(int)",
        "int judge(int,int)", "int behind(int,int,int)", "int rides(int,int)", "int day(int)", "int meet(int)", "int year()",
        "int come(int)", "int seed(int)", "int image()", "int back()", "int status(int)"};

    public static void main(String[] args) throws Exception {
        face();
        nested();
        String code = code();
        words(code);
        methods(code);
        room();
        neverThrows();
        CHECK.end();
    }

    private static boolean isOpen(Member m) {
        return !Modifier.isPrivate(m.getModifiers()) && !m.isSynthetic();
    }

    private static void face() {
        TreeSet<String> due = new TreeSet<>(Arrays.asList(FACE));
        TreeSet<String> found = new TreeSet<>();
        TreeSet<String> hidden = new TreeSet<>();
        for (var m : ThreeStrangers.class.getDeclaredMethods()) {
            if (isOpen(m)) {
                String parameters = Arrays.toString(m.getParameterTypes()).replaceAll("[\\[\\] ]", "");
                found.add(m.getReturnType() + " " + m.getName() + "(" + parameters + ")");
                CHECK.holds("public, not static: " + m, Modifier.isPublic(m.getModifiers()) && !Modifier.isStatic(m.getModifiers()));
            } else {
                hidden.add(m.getName());
            }
        }
        CHECK.holds("the methods of the face: " + found, found.equals(due));
        for (String face : FACE) {
            CHECK.holds("no private method of that name: " + face, !hidden.contains(face.replaceAll("\\w+ (\\w+)\\(.*", "$1")));
        }
        for (var f : ThreeStrangers.class.getDeclaredFields()) {
            CHECK.holds("fields are private but NONE: " + f, isOpen(f) == f.getName().equals("NONE"));
            CHECK.holds("static fields are final: " + f, !Modifier.isStatic(f.getModifiers()) || Modifier.isFinal(f.getModifiers()));
        }
        CHECK.due("constructors", ThreeStrangers.class.getConstructors().length, 1);
        CHECK.holds("final", Modifier.isFinal(ThreeStrangers.class.getModifiers()));
    }

    private static void nested() {
        Class<?>[] classes = ThreeStrangers.class.getDeclaredClasses();
        CHECK.holds("some twelve classes", classes.length + 1 <= 12);
        for (Class<?> c : classes) {
            CHECK.holds("static: " + c, Modifier.isStatic(c.getModifiers()) && !Modifier.isPublic(c.getModifiers()));
            CHECK.holds("some twenty fields: " + c, c.getDeclaredFields().length <= 20);
            for (var f : c.getDeclaredFields()) {
                CHECK.holds("static fields are final: " + f, !Modifier.isStatic(f.getModifiers()) || Modifier.isFinal(f.getModifiers()));
            }
        }
    }

    private static String code() throws Exception {
        String text = Files.readString(Path.of("src/main/java/ThreeStrangers.java"));
        CHECK.holds("signs 1 to 127 alone", text.chars().allMatch(c -> c < 128));
        return text.replaceAll("(?s)/\\*.*?\\*/", " ").replaceAll("//[^\n]*", " ");
    }

    private static void words(String code) {
        String[] barred = {"throw", "throws", "try", "catch", "synchronized", "assert", "import", "package", "equals", "hashCode",
            "toString", "Object", "native", "volatile", "transient", "strictfp", "var", "yield", "double", "float"};
        for (String word : barred) {
            CHECK.holds("without " + word, !Pattern.compile("\\b" + word + "\\b").matcher(code).find());
        }
        for (String sign : new String[] {"->", "::", "@", "? extends", "? super", "\" +", "+ \""}) {
            CHECK.holds("without " + sign, !code.contains(sign));
        }
        Matcher library = Pattern.compile("\\b(Math|Integer|Long|System|Arrays|String)\\.(\\w+)").matcher(code);
        List<String> allowed = List.of("Math.max", "Math.min", "Integer.bitCount", "System.arraycopy");
        while (library.find()) {
            CHECK.holds("of the library: " + library.group(), allowed.contains(library.group()));
        }
    }

    private static void methods(String code) {
        List<String> tooLong = new ArrayList<>();
        int begin = 0;
        String[] lines = code.split("\n");
        for (int i = 0; i < lines.length; i++) {
            boolean isHead = lines[i].matches("( {4}| {8})[\\w\\[\\]]+ .*\\) \\{") || lines[i].matches(" {4}public ThreeStrangers.*\\{");
            begin = isHead ? i : begin;
            if (lines[i].matches("( {4}| {8})\\}") && i - begin > 60 && lines[begin].indexOf(lines[begin].trim()) == lines[i].indexOf('}')) {
                tooLong.add(lines[begin]);
            }
            if (isHead) {
                CHECK.holds("seven parameters: " + lines[i], lines[i].chars().filter(c -> c == ',').count() <= 6);
            }
        }
        CHECK.holds("methods stay short: " + tooLong, tooLong.isEmpty());
    }

    /** Numbers of all sizes for all calls, in any order: what would be thrown ends the test. */
    private static void neverThrows() throws Exception {
        int[] odd = {Integer.MIN_VALUE, Integer.MIN_VALUE + 1, -129, -21, -2, -1, 0, 1, 2, 3, 4, 5, 6, 7, 8, 9, 10, 15, 23, 24, 31, 32, 33,
            40, 41, 63, 64, 99, 100, 127, 128, 255, 256, 1 << 16, 1 << 30, Integer.MAX_VALUE - 1, Integer.MAX_VALUE};
        var random = new java.util.Random(7);
        var calls = ThreeStrangers.class.getMethods();
        Arrays.sort(calls, java.util.Comparator.comparing(Object::toString));
        ThreeStrangers x = new ThreeStrangers();
        for (int i = 0; i < 300_000; i++) {
            x = i % 500 == 0 ? new ThreeStrangers() : x;
            var call = calls[random.nextInt(calls.length)];
            if (call.getDeclaringClass() == ThreeStrangers.class) {
                Object[] numbers = new Object[call.getParameterCount()];
                for (int k = 0; k < numbers.length; k++) {
                    int number = random.nextInt(3) == 0 ? odd[random.nextInt(odd.length)] : random.nextInt(8);
                    numbers[k] = call.getParameterTypes()[k] == long.class ? (Object) (number * 65537L) : (Object) number;
                }
                call.invoke(x, numbers);
            }
        }
        CHECK.holds("no call threw", true);
    }

    /** What 512 of the dearest calls make: nothing but a coachman each, all of it far below the one room. */
    private static void room() {
        var threads = (com.sun.management.ThreadMXBean) java.lang.management.ManagementFactory.getThreadMXBean();
        long bytes = 0;
        for (int round = 0; round < 3; round++) {
            long ahead = threads.getCurrentThreadAllocatedBytes();
            ThreeStrangers x = new ThreeStrangers();
            x.come(7);
            for (int i = 0; i < 17; i++) {
                dearCalls(x);
            }
            bytes = threads.getCurrentThreadAllocatedBytes() - ahead;
        }
        CHECK.holds("a run's room in bytes: " + bytes, bytes < 64 * 1024);
    }

    private static void dearCalls(ThreeStrangers x) {
        for (int s = 0; s < 5; s++) {
            x.coachman(s, s + 1, 5);
            x.days(s);
            x.waits(s, -1);
        }
        x.row(7, 3, 40);
        x.copy(7, 7, 0, 1, 39);
        x.feed('a');
        x.town();
        x.mostOf(127, 1);
        x.least(0);
        x.head();
        x.ever(0);
        x.ever(1);
        x.hire();
        x.feast(3);
        x.worst();
        x.fits(31);
        x.sure(31);
        x.image();
        x.back();
    }
}
