import java.util.ArrayDeque;
import java.util.ArrayList;
import java.util.Arrays;
import java.util.Collections;
import java.util.Comparator;
import java.util.Deque;
import java.util.HashMap;
import java.util.List;
import java.util.Map;
import java.util.PriorityQueue;
import java.util.Set;

/**
 * The document once more, written apart from the class under test: trees instead of codes, copies of everything
 * instead of rows that are used again, each search in its plainest form. ModelTest holds the two against each other.
 */
final class Model {
    static final int NONE = -1;
    static final long NOTHING = -1000000000000000L;
    static final Set<String> OWN = Set.of("plain", "by", "high", "topic", "person", "at", "tired", "knows", "of",
            "asks", "lifts", "tires", "holds", "crowd", "height", "known", "day", "side", "number", "column", "row",
            "or", "and", "not", "all", "min", "max");

    static final class Fault extends RuntimeException {
        private static final long serialVersionUID = 1L;
        final int kind;
        final int place;

        Fault(int kind, int place) {
            super(null, null, false, false);
            this.kind = kind;
            this.place = place;
        }
    }

    interface Node {
        long eval(Map<String, Long> facts, State state, int person);
    }

    static final class Person {
        int column;
        int row;
        int tired;
        int known;

        Person copy() {
            Person p = new Person();
            p.column = column;
            p.row = row;
            p.tired = tired;
            p.known = known;
            return p;
        }
    }

    static final class State {
        int day;
        int[][] high;
        List<Person> people = new ArrayList<>();
        List<int[]> kept = new ArrayList<>();

        State copy() {
            State s = new State();
            s.day = day;
            s.high = new int[high.length][];
            for (int i = 0; i < high.length; i++) {
                s.high[i] = high[i].clone();
            }
            for (Person p : people) {
                s.people.add(p.copy());
            }
            s.kept.addAll(kept);
            return s;
        }
    }

    static final class Spec {
        int columns;
        int rows;
        List<String> topics = new ArrayList<>();
        List<String> names = new ArrayList<>();
        List<int[]> list = new ArrayList<>();
        Node lifts;
        Node tires;
        Node holds;
        int crowd;
        State start = new State();
        int statements;
    }

    /** Reads with no look at more than the sign that comes next. */
    final class Parser {
        final int[] b;
        int i;
        boolean part;
        String mode;
        int open;

        Parser(List<Integer> bytes) {
            b = bytes.stream().mapToInt(Integer::intValue).toArray();
        }

        Fault no(int place) {
            return new Fault(1, place);
        }

        void blanks() {
            while (i < b.length && (b[i] == 10 || b[i] == 32)) {
                i++;
                part = true;
            }
        }

        boolean letterAt(int at) {
            return at < b.length && b[at] >= 97 && b[at] <= 122;
        }

        boolean digitAt(int at) {
            return at < b.length && b[at] >= 48 && b[at] <= 57;
        }

        /** The word ahead, "" when there is none that may stand here. */
        String peekWord() {
            blanks();
            if (!part) {
                return "";
            }
            StringBuilder w = new StringBuilder();
            for (int j = i; letterAt(j); j++) {
                w.append((char) b[j]);
            }
            return w.toString();
        }

        void word(String w) {
            if (!peekWord().equals(w)) {
                throw no(i);
            }
            i += w.length();
            part = false;
        }

        boolean mark(char c) {
            blanks();
            if (i < b.length && b[i] == c) {
                i++;
                part = true;
                return true;
            }
            return false;
        }

        void needMark(char c) {
            if (!mark(c)) {
                throw no(i);
            }
        }

        int number(int lo, int hi) {
            blanks();
            if (!part || !digitAt(i)) {
                throw no(i);
            }
            int from = i;
            long v = 0;
            while (digitAt(i)) {
                if (i - from == 4) {
                    throw no(i);
                }
                v = 10 * v + b[i] - 48;
                i++;
            }
            part = false;
            if (v < lo || v > hi) {
                throw new Fault(2, from);
            }
            return (int) v;
        }

        String name() {
            String w = peekWord();
            if (w.isEmpty() || OWN.contains(w)) {
                throw no(i);
            }
            if (w.length() > 6) {
                throw no(i + 6);
            }
            i += w.length();
            part = false;
            return w;
        }

        Spec plain() {
            Spec s = new Spec();
            part = true;
            blanks();
            while (true) {
                blanks();
                if (i == b.length) {
                    break;
                }
                if (s.statements == 80) {
                    throw new Fault(5, i);
                }
                statement(s);
                needMark(';');
                s.statements++;
            }
            if (s.statements == 0) {
                throw no(b.length);
            }
            return s;
        }

        void limit(boolean full) {
            if (full) {
                throw new Fault(5, i);
            }
        }

        void statement(Spec s) {
            String w = peekWord();
            if (w.equals("plain") != (s.statements == 0)) {
                throw no(i);
            }
            switch (w) {
                case "plain" -> {
                    word(w);
                    s.columns = number(3, 7);
                    word("by");
                    s.rows = number(3, 7);
                    s.start.high = new int[s.rows][s.columns];
                    for (int[] row : s.start.high) {
                        Arrays.fill(row, 50);
                    }
                }
                case "high" -> {
                    word(w);
                    int c = number(0, s.columns - 1);
                    int r = number(0, s.rows - 1);
                    s.start.high[r][c] = number(0, 99);
                }
                case "topic" -> {
                    limit(s.topics.size() == 5);
                    word(w);
                    s.topics.add(newName(s));
                }
                case "person" -> person(s);
                case "knows" -> {
                    word(w);
                    int p = find(s.names);
                    word("of");
                    blanks();
                    int at = i;
                    int t = find(s.topics);
                    if ((s.start.people.get(p).known & 1 << t) != 0) {
                        throw new Fault(3, at);
                    }
                    s.start.people.get(p).known |= 1 << t;
                }
                case "asks" -> {
                    limit(s.list.size() == 12);
                    word(w);
                    int p = find(s.names);
                    word("of");
                    s.list.add(new int[] {p, find(s.topics)});
                }
                case "lifts" -> {
                    limit(s.lifts != null);
                    word(w);
                    mode = w;
                    s.lifts = sum();
                }
                case "tires" -> {
                    limit(s.tires != null);
                    word(w);
                    mode = w;
                    s.tires = sum();
                }
                case "holds" -> {
                    limit(s.holds != null);
                    word(w);
                    mode = w;
                    s.holds = test();
                }
                case "crowd" -> {
                    word(w);
                    s.crowd = number(0, 100);
                }
                default -> throw no(i);
            }
        }

        void person(Spec s) {
            limit(s.names.size() == 7);
            word("person");
            String n = newName(s);
            word("at");
            Person p = new Person();
            p.column = number(0, s.columns - 1);
            blanks();
            int at = i;
            p.row = number(0, s.rows - 1);
            for (Person q : s.start.people) {
                if (q.column == p.column && q.row == p.row) {
                    throw new Fault(2, at);
                }
            }
            word("tired");
            p.tired = number(0, 9);
            s.names.add(n);
            s.start.people.add(p);
        }

        String newName(Spec s) {
            blanks();
            int at = i;
            String n = name();
            if (s.names.contains(n) || s.topics.contains(n)) {
                throw new Fault(3, at);
            }
            return n;
        }

        int find(List<String> names) {
            blanks();
            int at = i;
            int k = names.indexOf(name());
            if (k < 0) {
                throw new Fault(3, at);
            }
            return k;
        }

        void opening() {
            if (++open > 6) {
                throw new Fault(4, i);
            }
        }

        Node test() {
            Node a = both();
            while (peekWord().equals("or")) {
                word("or");
                Node l = a;
                Node r = both();
                a = (f, s, p) -> l.eval(f, s, p) != 0 || r.eval(f, s, p) != 0 ? 1 : 0;
            }
            return a;
        }

        Node both() {
            Node a = fact();
            while (peekWord().equals("and")) {
                word("and");
                Node l = a;
                Node r = fact();
                a = (f, s, p) -> l.eval(f, s, p) != 0 && r.eval(f, s, p) != 0 ? 1 : 0;
            }
            return a;
        }

        Node fact() {
            String w = peekWord();
            if (w.equals("not")) {
                opening();
                word(w);
                Node a = fact();
                open--;
                return (f, s, p) -> a.eval(f, s, p) == 0 ? 1 : 0;
            }
            if (w.equals("all")) {
                word(w);
                return (f, s, p) -> 1;
            }
            if (i < b.length && b[i] == '[') {
                opening();
                mark('[');
                Node a = test();
                needMark(']');
                open--;
                return a;
            }
            Node l = sum();
            blanks();
            if (i == b.length || b[i] != '<' && b[i] != '>' && b[i] != '=') {
                throw no(i);
            }
            char c = (char) b[i];
            mark(c);
            Node r = sum();
            return (f, s, p) -> {
                int order = Long.compare(l.eval(f, s, p), r.eval(f, s, p));
                return (c == '<' ? order < 0 : c == '>' ? order > 0 : order == 0) ? 1 : 0;
            };
        }

        Node sum() {
            Node a = product();
            while (true) {
                Node l = a;
                if (mark('+')) {
                    Node r = product();
                    a = (f, s, p) -> clamp(l.eval(f, s, p) + r.eval(f, s, p));
                } else if (mark('-')) {
                    Node r = product();
                    a = (f, s, p) -> clamp(l.eval(f, s, p) - r.eval(f, s, p));
                } else {
                    return a;
                }
            }
        }

        Node product() {
            Node a = part();
            while (true) {
                Node l = a;
                if (mark('*')) {
                    Node r = part();
                    a = (f, s, p) -> clamp(l.eval(f, s, p) * r.eval(f, s, p));
                } else if (mark('/')) {
                    Node r = part();
                    a = (f, s, p) -> quotient(l.eval(f, s, p), r.eval(f, s, p));
                } else {
                    return a;
                }
            }
        }

        Node part() {
            String w = peekWord();
            if (i < b.length && b[i] == '(') {
                opening();
                mark('(');
                Node a = sum();
                needMark(')');
                open--;
                return a;
            }
            if (w.isEmpty()) {
                long n = number(0, 9999);
                return (f, s, p) -> n;
            }
            if (w.equals("min") || w.equals("max")) {
                word(w);
                blanks();
                if (i == b.length || b[i] != '(') {
                    throw no(i);
                }
                opening();
                mark('(');
                Node l = sum();
                needMark(',');
                Node r = sum();
                needMark(')');
                open--;
                boolean least = w.equals("min");
                return (f, s, p) -> least ? Math.min(l.eval(f, s, p), r.eval(f, s, p))
                        : Math.max(l.eval(f, s, p), r.eval(f, s, p));
            }
            boolean asking = mode.equals("question");
            if (asking && (w.equals("knows") || w.equals("lifts"))) {
                opening();
                word(w);
                Node a = part();
                open--;
                return (f, s, p) -> ofTopic(w, a.eval(f, s, p), s, p);
            }
            Set<String> facts = asking ? Set.of("number", "column", "row", "tired", "height", "known", "day")
                    : mode.equals("lifts") ? Set.of("tired", "height", "known", "day", "topic", "side")
                    : Set.of("tired", "height", "known", "day", "topic");
            if (!facts.contains(w)) {
                throw no(i);
            }
            word(w);
            return (f, s, p) -> f.get(w);
        }
    }

    static long clamp(long v) {
        return Math.max(-1000000, Math.min(1000000, v));
    }

    static long quotient(long a, long b) {
        return b == 0 ? 0 : (long) Math.floor((double) a / (double) b);
    }

    long ofTopic(String w, long topic, State s, int p) {
        if (topic < 0 || topic >= spec.topics.size()) {
            return 0;
        }
        if (w.equals("knows")) {
            return s.people.get(p).known >> topic & 1;
        }
        State copy = s.copy();
        int before = copy.kept.size();
        asked(copy, p, (int) topic);
        return copy.kept.size() == before ? 0 : copy.kept.get(before)[3];
    }

    final List<Integer> tape = new ArrayList<>();
    Spec spec;
    State now = new State();
    final Deque<State> acts = new ArrayDeque<>();
    List<int[]> seen = new ArrayList<>();
    int faultKind;
    int faultPlace = NONE;
    long x = 1;
    List<Integer> image = new ArrayList<>();
    final int[] refused = new int[6];

    Map<String, Long> facts(State s, int p, int topic) {
        Person q = s.people.get(p);
        Map<String, Long> f = new HashMap<>();
        f.put("tired", (long) q.tired);
        f.put("height", (long) s.high[q.row][q.column]);
        f.put("known", (long) Integer.bitCount(q.known));
        f.put("day", (long) s.day);
        f.put("topic", (long) topic);
        f.put("number", (long) p);
        f.put("column", (long) q.column);
        f.put("row", (long) q.row);
        return f;
    }

    int deed(State s, int p, int topic) {
        if ((s.people.get(p).known >> topic & 1) == 1) {
            return 0;
        }
        return spec.holds != null && spec.holds.eval(facts(s, p, topic), s, p) != 0 ? 1 : 2;
    }

    int asked(State s, int p, int topic) {
        int deed = deed(s, p, topic);
        if (deed != 2) {
            return deed;
        }
        Person q = s.people.get(p);
        int all = 0;
        for (int c : new int[] {q.column - 1, q.column + 1}) {
            if (c < 0 || c >= spec.columns) {
                continue;
            }
            Map<String, Long> f = facts(s, p, topic);
            f.put("side", (long) s.high[q.row][c]);
            long times = spec.lifts == null ? 3 : Math.max(0, Math.min(9, spec.lifts.eval(f, s, p)));
            for (int k = 0; k < times; k++) {
                int[] top = null;
                for (int r = 0; r < spec.rows; r++) {
                    for (int d = 0; d < spec.columns; d++) {
                        boolean near = r == q.row && Math.abs(d - q.column) <= 1;
                        if (!near && (top == null || s.high[r][d] > s.high[top[0]][top[1]])) {
                            top = new int[] {r, d};
                        }
                    }
                }
                if (s.high[top[0]][top[1]] <= 0 || s.high[q.row][c] >= 99) {
                    break;
                }
                s.high[top[0]][top[1]]--;
                s.high[q.row][c]++;
                all++;
            }
        }
        long t = spec.tires == null ? q.tired + 1 : spec.tires.eval(facts(s, p, topic), s, p);
        q.tired = (int) Math.max(0, Math.min(9, t));
        s.kept.add(new int[] {s.day, p, topic, all});
        return 2;
    }

    int day(State s, int silent) {
        int deed = NONE;
        if (!spec.list.isEmpty()) {
            int[] row = spec.list.get(s.day % spec.list.size());
            if ((silent >> row[0] & 1) == 0) {
                deed = asked(s, row[0], row[1]);
            }
        }
        s.day++;
        return deed == 2 ? 1 : 0;
    }

    State ahead(int n, int silent) {
        State s = now.copy();
        for (int k = 0; k < n; k++) {
            day(s, silent);
        }
        return s;
    }

    int people() {
        return spec == null ? 0 : spec.names.size();
    }

    boolean isPerson(int p) {
        return p >= 0 && p < people();
    }

    boolean isTopic(int t) {
        return spec != null && t >= 0 && t < spec.topics.size();
    }

    boolean isCell(int c, int r) {
        return spec != null && c >= 0 && r >= 0 && c < spec.columns && r < spec.rows;
    }

    boolean isNumber(int n) {
        return n >= 0 && isCell(n % 8, n / 8);
    }

    boolean canBe(int n, int lo, int hi) {
        return spec != null && n >= lo && n <= hi && now.day + n <= 999;
    }

    int refuse(int kind) {
        refused[kind]++;
        return NONE;
    }

    List<Integer> take() {
        List<Integer> t = new ArrayList<>(tape);
        tape.clear();
        return t;
    }

    int feed(int... numbers) {
        if (tape.size() + 20 > 1600) {
            return refuse(0);
        }
        for (int n : numbers) {
            for (int k = 3; k >= 0; k--) {
                tape.add(n >>> 8 * k & 255);
            }
        }
        return tape.size();
    }

    boolean end(int n) {
        if (n < 0 || n > tape.size()) {
            return refuse(0) != NONE;
        }
        tape.subList(n, tape.size()).clear();
        return true;
    }

    int plain() {
        try {
            Spec s = new Parser(take()).plain();
            faultKind = 0;
            faultPlace = NONE;
            spec = s;
            now = s.start.copy();
            acts.clear();
            seen.clear();
            return s.statements;
        } catch (Fault f) {
            faultKind = f.kind;
            faultPlace = f.place;
            return refuse(1);
        }
    }

    int fault(int what) {
        return what == 0 ? faultKind : what == 1 ? faultPlace : NONE;
    }

    List<int[]> told() {
        return now.kept.subList(Math.max(0, now.kept.size() - 40), now.kept.size());
    }

    int has(int what) {
        if (what < 0 || what > 9) {
            return NONE;
        }
        if (spec == null) {
            return 0;
        }
        int sum = 0;
        for (int[] row : now.high) {
            sum += Arrays.stream(row).sum();
        }
        return new int[] {spec.columns, spec.rows, spec.topics.size(), people(), spec.list.size(), now.day, sum,
            told().size(), seen.size(), acts.size()}[what];
    }

    int letter(int kind, int which, int k) {
        if (k < 0 || k > 5 || kind < 0 || kind > 1 || !(kind == 0 ? isTopic(which) : isPerson(which))) {
            return NONE;
        }
        String n = (kind == 0 ? spec.topics : spec.names).get(which);
        return k < n.length() ? n.charAt(k) - 96 : 0;
    }

    int height(int c, int r) {
        return isCell(c, r) ? now.high[r][c] : NONE;
    }

    int person(int p, int what) {
        if (!isPerson(p) || what < 0 || what > 3) {
            return NONE;
        }
        Person q = now.people.get(p);
        return new int[] {q.column, q.row, q.tired, q.known}[what];
    }

    int list(int k, int what) {
        return spec == null || k < 0 || k >= spec.list.size() || what < 0 || what > 1 ? NONE
                : spec.list.get(k)[what];
    }

    int would(int p, int t) {
        return isPerson(p) && isTopic(t) ? deed(now, p, t) : NONE;
    }

    int kept(int k, int what) {
        return k < 0 || k >= told().size() || what < 0 || what > 3 ? NONE : told().get(k)[what];
    }

    int later(int c, int r, int n) {
        return isCell(c, r) && canBe(n, 0, 60) ? ahead(n, 0).high[r][c] : NONE;
    }

    int tired(int p, int n) {
        return isPerson(p) && canBe(n, 0, 60) ? ahead(n, 0).people.get(p).tired : NONE;
    }

    int rises(int c, int r, int height) {
        for (int n = 0; n <= 60 && isCell(c, r) && now.day + n <= 999; n++) {
            if (ahead(n, 0).high[r][c] >= height) {
                return n;
            }
        }
        return NONE;
    }

    int plan(int up, int height, int stay, int k) {
        if (!isNumber(up) || !isNumber(stay) || height < 0 || height > 99) {
            return NONE;
        }
        List<Integer> row = new ArrayList<>();
        for (int length = 0; length <= 3; length++) {
            if (extend(now, up, height, stay, length, row)) {
                Collections.reverse(row);
                return k == NONE ? length : k >= 0 && k < length ? row.get(k) : NONE;
            }
        }
        return NONE;
    }

    /** The row comes out with its last asking first. */
    boolean extend(State s, int up, int height, int stay, int left, List<Integer> row) {
        if (left == 0) {
            return s.high[up / 8][up % 8] >= height
                    && s.high[stay / 8][stay % 8] == now.high[stay / 8][stay % 8];
        }
        for (int p = 0; p < people(); p++) {
            for (int t = 0; t < spec.topics.size(); t++) {
                State next = s.copy();
                asked(next, p, t);
                if (extend(next, up, height, stay, left - 1, row)) {
                    row.add(8 * p + t);
                    return true;
                }
            }
        }
        return false;
    }

    int cost(State s, int from, int to) {
        PriorityQueue<int[]> queue = new PriorityQueue<>(Comparator.comparingInt(e -> e[0]));
        Map<Integer, Integer> done = new HashMap<>();
        queue.add(new int[] {0, from});
        while (!queue.isEmpty()) {
            int[] e = queue.poll();
            if (done.putIfAbsent(e[1], e[0]) != null) {
                continue;
            }
            for (int n : next(e[1])) {
                queue.add(new int[] {e[0] + 1 + Math.abs(s.high[n / 8][n % 8] - s.high[e[1] / 8][e[1] % 8]), n});
            }
        }
        return done.get(to);
    }

    List<Integer> next(int number) {
        List<Integer> all = new ArrayList<>();
        for (int r = 0; r < spec.rows; r++) {
            for (int c = 0; c < spec.columns; c++) {
                if (Math.abs(r - number / 8) + Math.abs(c - number % 8) == 1) {
                    all.add(8 * r + c);
                }
            }
        }
        return all;
    }

    int way(int from, int to) {
        return isNumber(from) && isNumber(to) ? cost(now, from, to) : NONE;
    }

    int pond(int c, int r) {
        if (!isCell(c, r)) {
            return NONE;
        }
        int lowest = 8 * r + c;
        for (int n : next(8 * r + c)) {
            if (now.high[n / 8][n % 8] < now.high[lowest / 8][lowest % 8]) {
                lowest = n;
            }
        }
        return lowest == 8 * r + c ? lowest : pond(lowest % 8, lowest / 8);
    }

    List<Integer> sets() {
        List<Integer> all = new ArrayList<>();
        for (int s = 0; s < 1 << people(); s++) {
            all.add(s);
        }
        all.sort(Comparator.comparingInt((Integer s) -> Integer.bitCount(s)).thenComparingInt(s -> s));
        return all;
    }

    int keeps(int from, int to, int n) {
        if (!isNumber(from) || !isNumber(to) || !canBe(n, 1, 20)) {
            return NONE;
        }
        for (int s : sets()) {
            if (cost(ahead(n, s), from, to) <= cost(now, from, to)) {
                return s;
            }
        }
        return NONE;
    }

    int rest(int n) {
        if (!canBe(n, 1, 20)) {
            return NONE;
        }
        for (int s : sets()) {
            boolean rests = true;
            State with = ahead(n, s);
            for (int p = 0; p < people() && rests; p++) {
                Person q = now.people.get(p);
                rests = ahead(n, s ^ 1 << p).high[q.row][q.column] <= with.high[q.row][q.column];
            }
            if (rests) {
                return s;
            }
        }
        return NONE;
    }

    int see() {
        List<Integer> t = take();
        List<int[]> rows = new ArrayList<>();
        for (int k = 0; k + 3 < t.size(); k += 4) {
            int[] row = {t.get(k), t.get(k + 1), t.get(k + 2), t.get(k + 3)};
            if (row[0] > 30 || !isCell(row[1], row[2]) || row[3] > 99) {
                return refuse(1);
            }
            rows.add(row);
        }
        if (rows.isEmpty() || rows.size() > 16 || t.size() % 4 != 0) {
            return refuse(1);
        }
        seen = rows;
        return rows.size();
    }

    State askedThen(int p, int topic, int n) {
        State s = now.copy();
        asked(s, p, topic);
        for (int k = 0; k < n; k++) {
            day(s, 0);
        }
        return s;
    }

    int who(int topic) {
        if (!isTopic(topic)) {
            return NONE;
        }
        int bits = 0;
        for (int p = 0; p < people(); p++) {
            boolean fits = true;
            for (int[] row : seen) {
                fits &= now.day + row[0] <= 999 && askedThen(p, topic, row[0]).high[row[2]][row[1]] == row[3];
            }
            bits |= fits ? 1 << p : 0;
        }
        return bits;
    }

    int tells(int topic, int what) {
        int bits = who(topic);
        if (bits <= 0 || what < 0 || what > 2) {
            return NONE;
        }
        int[] best = null;
        for (int n = 0; n <= 30 && now.day + n <= 999; n++) {
            List<State> states = new ArrayList<>();
            for (int p = 0; p < people(); p++) {
                if ((bits >> p & 1) == 1) {
                    states.add(askedThen(p, topic, n));
                }
            }
            for (int r = 0; r < spec.rows; r++) {
                for (int c = 0; c < spec.columns; c++) {
                    Map<Integer, Integer> counts = new HashMap<>();
                    for (State s : states) {
                        counts.merge(s.high[r][c], 1, Integer::sum);
                    }
                    int most = Collections.max(counts.values());
                    if (best == null || most < best[2]) {
                        best = new int[] {n, 8 * r + c, most};
                    }
                }
            }
        }
        return best[what];
    }

    void act() {
        acts.addLast(now.copy());
        if (acts.size() > 20) {
            acts.removeFirst();
        }
    }

    int asks(int p, int t) {
        if (!isPerson(p) || !isTopic(t)) {
            return refuse(2);
        }
        act();
        return asked(now, p, t);
    }

    boolean teach(int p, int t, int on) {
        if (!isPerson(p) || !isTopic(t) || on != 0 && on != 1 || (now.people.get(p).known >> t & 1) == on) {
            return refuse(2) != NONE;
        }
        act();
        now.people.get(p).known += on == 1 ? 1 << t : -(1 << t);
        return true;
    }

    boolean go(int p, int c, int r) {
        if (!isPerson(p) || !isCell(c, r)
                || now.people.stream().anyMatch(q -> q.column == c && q.row == r)) {
            return refuse(2) != NONE;
        }
        act();
        now.people.get(p).column = c;
        now.people.get(p).row = r;
        return true;
    }

    boolean ease(int p) {
        if (!isPerson(p) || now.people.get(p).tired == 0) {
            return refuse(2) != NONE;
        }
        act();
        now.people.get(p).tired = 0;
        return true;
    }

    int days(int n) {
        if (!canBe(n, 1, 100)) {
            return refuse(3);
        }
        act();
        int shrugs = 0;
        for (int k = 0; k < n; k++) {
            shrugs += day(now, 0);
        }
        return shrugs;
    }

    int draw(int m) {
        x = (1103515245L * x + 12345L) % (1L << 31);
        return (int) (x / 64 % m);
    }

    int chance(int n) {
        if (!canBe(n, 1, 100)) {
            return refuse(3);
        }
        act();
        int shrugs = 0;
        for (int k = 0; k < n; k++) {
            if (draw(100) < spec.crowd && people() > 0 && !spec.topics.isEmpty()) {
                int p = draw(people());
                int t = draw(spec.topics.size());
                shrugs += asked(now, p, t) == 2 ? 1 : 0;
            }
            day(now, 0);
        }
        return shrugs;
    }

    boolean undo() {
        if (acts.isEmpty()) {
            return refuse(4) != NONE;
        }
        now = acts.removeLast();
        return true;
    }

    boolean seed(int s) {
        if (s < 0) {
            return refuse(5) != NONE;
        }
        x = s;
        return true;
    }

    long ask() {
        List<Integer> t = take();
        if (spec == null) {
            return NOTHING;
        }
        try {
            Parser parser = new Parser(t);
            parser.part = true;
            parser.mode = "question";
            String head = parser.peekWord();
            if (!Set.of("first", "last", "often", "total", "most", "least").contains(head)) {
                throw parser.no(parser.i);
            }
            parser.word(head);
            Node node = Set.of("first", "last", "often").contains(head) ? parser.test() : parser.sum();
            parser.blanks();
            if (parser.i != parser.b.length) {
                throw parser.no(parser.i);
            }
            faultKind = 0;
            faultPlace = NONE;
            return answer(head, node);
        } catch (Fault f) {
            faultKind = f.kind;
            faultPlace = f.place;
            return NOTHING;
        }
    }

    long answer(String head, Node node) {
        List<Long> values = new ArrayList<>();
        for (int p = 0; p < people(); p++) {
            values.add(node.eval(facts(now, p, 0), now, p));
        }
        return switch (head) {
            case "first" -> values.indexOf(1L);
            case "last" -> values.lastIndexOf(1L);
            case "most" -> values.isEmpty() ? 0 : Collections.max(values);
            case "least" -> values.isEmpty() ? 0 : Collections.min(values);
            default -> values.stream().mapToLong(Long::longValue).sum();
        };
    }

    int image() {
        image = new ArrayList<>(List.of(now.day >> 8, now.day & 255));
        for (int[] row : spec == null ? new int[0][0] : now.high) {
            for (int h : row) {
                image.add(h);
            }
        }
        for (Person p : now.people) {
            image.addAll(List.of(p.column, p.row, p.tired, p.known));
        }
        image.add(check(image));
        return image.size();
    }

    static int check(List<Integer> bytes) {
        int c = 227;
        for (int b : bytes) {
            c = (3 * c + b) % 251;
        }
        return c;
    }

    int octet(int k) {
        return k < 0 || k >= image.size() ? NONE : image.get(k);
    }

    boolean on() {
        List<Integer> t = take();
        if (spec == null || t.size() != 3 + spec.columns * spec.rows + 4 * people()
                || t.get(t.size() - 1) != check(t.subList(0, t.size() - 1))) {
            return refuse(5) != NONE;
        }
        State s = spec.start.copy();
        s.day = t.get(0) * 256 + t.get(1);
        boolean fine = s.day <= 999;
        int k = 2;
        for (int[] row : s.high) {
            for (int c = 0; c < row.length; c++) {
                row[c] = t.get(k++);
                fine &= row[c] <= 99;
            }
        }
        List<Integer> places = new ArrayList<>();
        for (Person p : s.people) {
            p.column = t.get(k++);
            p.row = t.get(k++);
            p.tired = t.get(k++);
            p.known = t.get(k++);
            fine &= isCell(p.column, p.row) && p.tired <= 9 && p.known < 1 << spec.topics.size()
                    && !places.contains(p.row * 8 + p.column);
            places.add(p.row * 8 + p.column);
        }
        if (!fine) {
            return refuse(5) != NONE;
        }
        now = s;
        acts.clear();
        return true;
    }

    int status(int what) {
        return what < 0 || what > 5 ? NONE : refused[what];
    }
}
