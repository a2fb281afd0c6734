import java.io.IOException;
import java.lang.reflect.Method;
import java.lang.reflect.Modifier;
import java.nio.file.Files;
import java.nio.file.Path;
import java.util.Arrays;
import java.util.Set;
import java.util.TreeSet;
import java.util.regex.Matcher;
import java.util.regex.Pattern;

/** The calls in README.md must answer what stands behind them there; it runs in the project's folder. */
public final class ReadmeTest {
    private static final Path README = Path.of("README.md");
    private static final Path HERE = Path.of("src/test/java/ReadmeTest.java");
    private static final Pattern CALL = Pattern.compile("hills\\.(\\w+)\\(([-0-9, ]*)\\); +// ([-\\w]+)(:.*)?");
    private static final Pattern PUT = Pattern.compile("put\\(hills, \"(.*)\"\\);");
    private static final String FRESH = "ShrugHills hills = new ShrugHills();";
    private static ShrugHills hills;
    private static int answers;
    private static int wrong;

    private ReadmeTest() {
    }

    public static void main(String[] args) throws IOException, ReflectiveOperationException {
        String here = Files.readString(HERE).replace("\n    ", "\n");
        String readme = Files.readString(README);
        Matcher block = Pattern.compile("(?s)```java\n(.*?)```").matcher(readme);
        while (block.find()) {
            if (block.group(1).startsWith("static ")) {
                check(here.contains("private " + block.group(1)), "the method in README.md is not the one here");
            } else {
                for (String line : block.group(1).split("\n")) {
                    follow(line);
                }
            }
        }
        check(answers > 0, "README.md has no calls");
        allAreNamed(readme);
        System.out.println("ReadmeTest: " + answers + " answers, " + wrong + " wrong");
        if (wrong > 0) {
            System.exit(1);
        }
    }

    // As it stands in README.md.
    private static void put(ShrugHills hills, String text) {
        int[] numbers = new int[(text.length() + 19) / 20 * 5];
        for (int i = 0; i < text.length(); i++) {
            numbers[i / 4] |= text.charAt(i) << 24 - 8 * (i % 4);
        }
        for (int i = 0; i < numbers.length; i += 5) {
            hills.feed(numbers[i], numbers[i + 1], numbers[i + 2], numbers[i + 3], numbers[i + 4]);
        }
        hills.end(text.length());
    }

    private static void check(boolean fine, String what) {
        if (!fine) {
            wrong++;
            System.out.println("ReadmeTest: " + what);
        }
    }

    private static void follow(String line) throws ReflectiveOperationException {
        Matcher text = PUT.matcher(line);
        Matcher call = CALL.matcher(line);
        if (line.equals(FRESH)) {
            hills = new ShrugHills();
        } else if (text.matches()) {
            put(hills, text.group(1));
        } else if (call.matches()) {
            String got = String.valueOf(answer(call.group(1), call.group(2)));
            answers++;
            check(got.equals(told(call.group(3))), line + " -- answered " + got);
        } else {
            check(false, "this is no call: " + line);
        }
    }

    private static String told(String answer) {
        return switch (answer) {
            case "NONE" -> String.valueOf(ShrugHills.NONE);
            case "NOTHING" -> String.valueOf(ShrugHills.NOTHING);
            default -> answer;
        };
    }

    private static Object answer(String name, String listed) throws ReflectiveOperationException {
        Object[] numbers = Arrays.stream(listed.isEmpty() ? new String[0] : listed.split(", ")).map(Integer::valueOf)
                .toArray();
        Class<?>[] types = new Class<?>[numbers.length];
        Arrays.fill(types, int.class);
        return ShrugHills.class.getMethod(name, types).invoke(hills, numbers);
    }

    /** Each call that may be refused has its place in README.md, and no call stands there that the face has not. */
    private static void allAreNamed(String readme) {
        Set<String> face = new TreeSet<>();
        for (Method m : ShrugHills.class.getDeclaredMethods()) {
            if (Modifier.isPublic(m.getModifiers())) {
                face.add(m.getName());
            }
        }
        Matcher named = Pattern.compile("`(\\w+)\\(").matcher(readme);
        Set<String> there = new TreeSet<>();
        while (named.find()) {
            there.add(named.group(1));
            check(face.contains(named.group(1)), "README.md names " + named.group(1) + "()");
        }
        for (String refusing : new String[] {"feed", "end", "plain", "see", "asks", "teach", "go", "ease", "days", "chance",
            "undo", "seed", "on", "ask", "fault", "status", "image", "octet"}) {
            check(there.contains(refusing), "README.md does not name " + refusing + "()");
        }
    }
}
