import java.io.IOException;
import java.lang.reflect.Field;
import java.lang.reflect.Method;
import java.lang.reflect.Modifier;
import java.nio.file.Files;
import java.nio.file.Path;
import java.util.ArrayList;
import java.util.Arrays;
import java.util.List;
import java.util.Set;
import java.util.TreeSet;
import java.util.regex.Matcher;
import java.util.regex.Pattern;

/** Rules of LANGUAGE.md that can be seen in the source or by reflection; it runs in the project's folder. */
public final class LanguageTest {
    private static final Path SOURCE = Path.of("src/main/java/ShrugHills.java");
    private static final String[] FACE = {"feed(int,int,int,int,int)int", "end(int)boolean", "plain()int", "fault(int)int",
        "has(int)int", "letter(int,int,int)int", "height(int,int)int", "person(int,int)int", "list(int,int)int",
        "would(int,int)int", "kept(int,int)int", "later(int,int,int)int", "tired(int,int)int", "rises(int,int,int)int",
        "plan(int,int,int,int)int", "way(int,int)int", "pond(int,int)int", "keeps(int,int,int)int", "rest(int)int",
        "see()int", "who(int)int", "tells(int,int)int", "asks(int,int)int", "teach(int,int,int)boolean",
        "go(int,int,int)boolean", "ease(int)boolean", "days(int)int", "chance(int)int", "undo()boolean",
        "seed(int)boolean", "ask()long", "image()int", "octet(int)int", "on()boolean", "status(int)int"};
    private static final Set<String> LIBRARY = Set.of("Math.max", "Math.min", "Math.abs", "Math.floorDiv",
        "Integer.bitCount", "System.arraycopy", "Arrays.fill");
    private static int wrong;

    private LanguageTest() {
    }

    public static void main(String[] args) throws IOException {
        String source = Files.readString(SOURCE);
        face();
        classes();
        words(source.replaceAll("(?s)/\\*.*?\\*/", "").replaceAll("//[^\n]*", "").replaceAll("\"[^\"\n]*\"", "\"\""));
        lengths(source);
        System.out.println("LanguageTest: " + wrong + " wrong");
        if (wrong > 0) {
            System.exit(1);
        }
    }

    private static void check(boolean fine, String what) {
        if (!fine) {
            wrong++;
            System.out.println("LanguageTest: " + what);
        }
    }

    private static String sign(Method m) {
        List<String> types = new ArrayList<>();
        for (Class<?> type : m.getParameterTypes()) {
            types.add(type.getSimpleName());
        }
        return m.getName() + "(" + String.join(",", types) + ")" + m.getReturnType().getSimpleName();
    }

    private static void face() {
        check(Modifier.isPublic(ShrugHills.class.getModifiers()) && Modifier.isFinal(ShrugHills.class.getModifiers()),
                "the class is public and final");
        check(ShrugHills.class.getDeclaredConstructors().length == 1 && ShrugHills.class.getConstructors().length == 1,
                "one public constructor");
        Set<String> open = new TreeSet<>();
        Set<String> names = new TreeSet<>();
        for (Method m : ShrugHills.class.getDeclaredMethods()) {
            if (!Modifier.isPrivate(m.getModifiers())) {
                open.add(sign(m));
                names.add(m.getName());
                check(Modifier.isPublic(m.getModifiers()) && !Modifier.isStatic(m.getModifiers()), sign(m) + " is public");
            }
        }
        check(open.equals(new TreeSet<>(Arrays.asList(FACE))), "the face is " + open);
        for (Field f : ShrugHills.class.getDeclaredFields()) {
            boolean constant = f.getName().equals("NONE") || f.getName().equals("NOTHING");
            check(constant ? Modifier.isPublic(f.getModifiers()) : Modifier.isPrivate(f.getModifiers()),
                    "how open is " + f.getName());
        }
        check(privateNames().stream().noneMatch(names::contains), "a method bears the name of one of the face");
    }

    private static Set<String> privateNames() {
        Set<String> names = new TreeSet<>();
        for (Method m : ShrugHills.class.getDeclaredMethods()) {
            if (Modifier.isPrivate(m.getModifiers())) {
                names.add(m.getName());
            }
        }
        for (Class<?> inside : ShrugHills.class.getDeclaredClasses()) {
            for (Method m : inside.getDeclaredMethods()) {
                names.add(m.getName());
            }
        }
        return names;
    }

    private static void classes() {
        List<Class<?>> all = new ArrayList<>(Arrays.asList(ShrugHills.class.getDeclaredClasses()));
        check(all.size() <= 11, "twelve classes at most");
        for (Class<?> inside : all) {
            check(Modifier.isStatic(inside.getModifiers()) && Modifier.isPrivate(inside.getModifiers()),
                    inside + " is private and static");
        }
        all.add(ShrugHills.class);
        for (Class<?> c : all) {
            int fields = 0;
            for (Field f : c.getDeclaredFields()) {
                boolean isStatic = Modifier.isStatic(f.getModifiers());
                fields += isStatic ? 0 : 1;
                check(!isStatic || Modifier.isFinal(f.getModifiers()), f + " is final");
            }
            check(fields <= 20, c + " has " + fields + " fields");
            for (Method m : c.getDeclaredMethods()) {
                check(m.getParameterCount() <= 7, m + " has too many parameters");
            }
        }
    }

    private static void words(String code) {
        for (String no : new String[] {"throw", "throws", "try", "catch", "synchronized", "assert", "instanceof",
            "double", "float", "Object", "yield", "var", "record", "enum", "extends", "implements", "null"}) {
            check(!Pattern.compile("\\b" + no + "\\b").matcher(code).find(), "the word " + no + " stands there");
        }
        check(!code.contains("->") && !code.contains("::"), "no lambda, no method reference");
        Matcher imports = Pattern.compile("import ([^;]+);").matcher(code);
        while (imports.find()) {
            check(imports.group(1).equals("java.util.Arrays"), "import " + imports.group(1));
        }
        Matcher library = Pattern.compile("\\b(Math|Integer|Long|System|Arrays|String|Character)\\.\\w+").matcher(code);
        while (library.find()) {
            boolean imported = code.startsWith("import java.util.", library.start() - "import java.util.".length());
            check(imported || LIBRARY.contains(library.group()), library.group() + " is used");
        }
        check(!Pattern.compile("\"\\s*\\+|\\+\\s*\"").matcher(code).find(), "no text is joined by +");
    }

    private static void lengths(String source) {
        String[] lines = source.split("\n");
        int from = -1;
        String indent = "";
        for (int k = 0; k < lines.length; k++) {
            Matcher head = Pattern.compile("^( {4}| {8})(?! ).*\\) \\{$").matcher(lines[k]);
            if (from < 0 && head.find()) {
                from = k;
                indent = head.group(1);
            } else if (from >= 0 && lines[k].equals(indent + "}")) {
                check(k - from < 60, "the method at line " + (from + 1) + " is long");
                from = -1;
            }
        }
    }
}
