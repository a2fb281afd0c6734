import java.util.ArrayList;
import java.util.List;
import java.util.Random;
import java.util.regex.MatchResult;
import java.util.regex.Pattern;

/** Makes plains and questions at random, and spoils them. */
final class Texts {
    private static final Pattern NUMBER = Pattern.compile("[0-9]+");
    private static final Pattern WORD = Pattern.compile("[a-z]+");
    private static final String[] NUMBERS = {"0", "2", "3", "7", "8", "9", "10", "99", "100", "101", "9999", "10000", "00000"};
    private final Random random;
    private final List<String> topics = new ArrayList<>();
    private final List<String> people = new ArrayList<>();
    private int deep;
    private String mode;

    Texts(Random random) {
        this.random = random;
    }

    private int up(int n) {
        return random.nextInt(n);
    }

    private String blank() {
        return up(20) == 0 ? "\n" : up(20) == 0 ? "  " : " ";
    }

    private String name() {
        StringBuilder name = new StringBuilder();
        for (int k = 1 + up(up(4) == 0 ? 6 : 3); k > 0; k--) {
            name.append((char) ('a' + up(26)));
        }
        return name.toString();
    }

    private String freshName() {
        String name = name();
        for (int k = 0; k < 99 && (topics.contains(name) || people.contains(name) || Model.OWN.contains(name)); k++) {
            name = name();
        }
        return up(150) == 0 && !topics.isEmpty() ? topics.get(0) : name;
    }

    String plain() {
        int columns = 3 + up(up(2) == 0 ? 2 : 5);
        int rows = 3 + up(up(2) == 0 ? 2 : 5);
        List<String> all = new ArrayList<>();
        all.add("plain " + columns + " by " + rows);
        for (int k = up(5); k > 0; k--) {
            topic(all);
        }
        for (int k = up(6); k > 0; k--) {
            person(all, columns, rows);
        }
        int statements = up(30) == 0 ? 60 + up(30) : up(25);
        boolean[] ruled = new boolean[3];
        for (int k = 0; k < statements; k++) {
            statement(all, columns, rows, ruled);
        }
        StringBuilder text = new StringBuilder();
        for (String s : all) {
            text.append(up(3) == 0 ? blank() : "").append(s).append(up(9) == 0 ? " ;" : ";");
        }
        return text.length() > 1580 ? text.substring(0, 1500) : text.toString();
    }

    private void topic(List<String> all) {
        if (topics.size() < 5 || up(30) == 0) {
            String name = freshName();
            all.add("topic" + blank() + name);
            topics.add(name);
        }
    }

    private void person(List<String> all, int columns, int rows) {
        if (people.size() < 7 || up(30) == 0) {
            String name = freshName();
            // Cells by turns, so that one in which none is comes up mostly.
            int cell = (people.size() * 5 + up(20) / 19 * 5 + up(2)) % (columns * rows);
            all.add("person " + name + " at " + cell % columns + blank() + cell / columns + " tired " + up(10));
            people.add(name);
        }
    }

    private void statement(List<String> all, int columns, int rows, boolean[] ruled) {
        switch (up(12)) {
            case 0, 1, 2 -> all.add("high " + up(columns) + blank() + up(rows) + blank() + height());
            case 3 -> topic(all);
            case 4 -> person(all, columns, rows);
            case 5 -> {
                if (!people.isEmpty() && !topics.isEmpty()) {
                    all.add("knows " + people.get(up(people.size())) + " of " + topics.get(up(topics.size())));
                }
            }
            case 6, 7, 8 -> {
                if (!people.isEmpty() && !topics.isEmpty()) {
                    all.add("asks " + people.get(up(people.size())) + " of " + topics.get(up(topics.size())));
                }
            }
            case 9 -> rule(all, ruled, up(3));
            case 10 -> rule(all, ruled, 0);
            default -> all.add("crowd " + up(101));
        }
    }

    private String height() {
        return up(3) == 0 ? String.valueOf(up(100)) : up(2) == 0 ? String.valueOf(90 + up(10)) : String.valueOf(up(6));
    }

    private void rule(List<String> all, boolean[] ruled, int which) {
        if (ruled[which] && up(20) != 0) {
            return;
        }
        ruled[which] = true;
        mode = new String[] {"lifts", "tires", "holds"}[which];
        deep = 0;
        all.add(mode + " " + (which == 2 ? test() : up(3) == 0 ? small() : sum()));
    }

    private String small() {
        return up(4) + "+" + fact() + "/" + (1 + up(20));
    }

    String question() {
        mode = "question";
        deep = 0;
        String head = new String[] {"first", "last", "often", "total", "most", "least"}[up(6)];
        boolean tests = head.equals("first") || head.equals("last") || head.equals("often");
        return head + blank() + (tests ? test() : sum());
    }

    private String test() {
        StringBuilder text = new StringBuilder(both());
        while (up(4) == 0) {
            text.append(blank()).append("or").append(blank()).append(both());
        }
        return text.toString();
    }

    private String both() {
        StringBuilder text = new StringBuilder(testFact());
        while (up(4) == 0) {
            text.append(blank()).append("and").append(blank()).append(testFact());
        }
        return text.toString();
    }

    private boolean deeper() {
        return deep < 6 || up(4) == 0 && deep < 8;
    }

    private String testFact() {
        if (up(5) == 0 && deeper()) {
            deep++;
            String text = up(2) == 0 ? "not " + testFact() : "[" + test() + "]";
            deep--;
            return text;
        }
        return up(12) == 0 ? "all" : sum() + new String[] {"<", ">", "=", " < ", " > "}[up(5)] + sum();
    }

    private String sum() {
        StringBuilder text = new StringBuilder(product());
        while (up(3) == 0) {
            text.append(up(2) == 0 ? "+" : " - ").append(product());
        }
        return text.toString();
    }

    private String product() {
        StringBuilder text = new StringBuilder(part());
        while (up(4) == 0) {
            text.append(up(2) == 0 ? "*" : " / ").append(part());
        }
        return text.toString();
    }

    private String fact() {
        String[] facts = switch (mode) {
            case "lifts" -> new String[] {"tired", "height", "known", "day", "topic", "side"};
            case "question" -> new String[] {"number", "column", "row", "tired", "height", "known", "day"};
            default -> new String[] {"tired", "height", "known", "day", "topic"};
        };
        return facts[up(facts.length)];
    }

    private String part() {
        if (up(4) == 0 && deeper()) {
            deep++;
            String text = switch (up(mode.equals("question") ? 5 : 3)) {
                case 0 -> "(" + sum() + ")";
                case 1 -> "min(" + sum() + "," + sum() + ")";
                case 2 -> "max (" + sum() + " , " + sum() + ")";
                case 3 -> "knows " + part();
                default -> "lifts " + part();
            };
            deep--;
            return text;
        }
        return up(2) == 0 ? fact() : String.valueOf(up(6) == 0 ? up(10000) : up(10));
    }

    /** A byte changed, taken away, put in, the end cut off; or a number, a word, a statement that is not due there. */
    String spoiled(String text) {
        if (text.isEmpty()) {
            return text;
        }
        switch (up(9)) {
            case 0:
                return withOther(text, NUMBER, NUMBERS[up(NUMBERS.length)]);
            case 1:
                return withOther(text, WORD, oneOf(text, WORD));
            case 2:
                return withAgain(text);
            default:
                return spoiledAt(text, up(text.length()));
        }
    }

    private List<MatchResult> all(String text, Pattern kind) {
        return kind.matcher(text).results().toList();
    }

    private String oneOf(String text, Pattern kind) {
        List<MatchResult> found = all(text, kind);
        return found.isEmpty() ? "" : found.get(up(found.size())).group();
    }

    /** One of a kind in the text exchanged. */
    private String withOther(String text, Pattern kind, String other) {
        List<MatchResult> found = all(text, kind);
        if (found.isEmpty()) {
            return text;
        }
        MatchResult one = found.get(up(found.size()));
        return text.substring(0, one.start()) + other + text.substring(one.end());
    }

    /** A statement once more, anywhere; or as many at the end that there are 79 to 81. */
    private String withAgain(String text) {
        List<String> statements = new ArrayList<>(List.of(text.split(";")));
        if (up(2) == 0) {
            statements.add(up(statements.size() + 1), statements.get(up(statements.size())));
            return String.join(";", statements) + ";";
        }
        return text + "crowd 1;".repeat(Math.max(0, 79 + up(3) - statements.size())) + (up(2) == 0 ? "" : " x");
    }

    private String spoiledAt(String text, int at) {
        String signs = " ;abcpt019()[],<>=+-*/\n~A";
        String sign = up(30) == 0 ? String.valueOf((char) up(256)) : String.valueOf(signs.charAt(up(signs.length())));
        String[] words = {"topic", "not", "person", "12345", "abcdefg", "side", "all", "knows", "0", "of", " min(", "]"};
        return switch (up(6)) {
            case 0 -> text.substring(0, at);
            case 1 -> text.substring(0, at) + text.substring(at + 1);
            case 2 -> text.substring(0, at) + sign + text.substring(at + 1);
            case 3 -> text.substring(0, at) + words[up(words.length)] + text.substring(at);
            case 4 -> text.substring(0, at) + " " + words[up(words.length)] + " " + text.substring(at);
            default -> text.substring(0, at) + sign + text.substring(at);
        };
    }
}
