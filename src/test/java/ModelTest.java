import java.util.ArrayList;
import java.util.List;
import java.util.Random;

/** Runs of as many calls as an object is used for, ordinary and wrong ones, whose answers must be those of Model. */
public final class ModelTest {
    private static final int RUNS = 3000;
    private static final int CALLS = 512;
    private final Random random;
    private final int run;
    private final ShrugHills x = new ShrugHills();
    private final Model m = new Model();
    private final List<String> trace = new ArrayList<>();
    private boolean wrong;
    private int calls;
    private int topics;
    private int people;

    private ModelTest(int run) {
        this.run = run;
        this.random = new Random(7919L * run + 13);
    }

    public static void main(String[] args) {
        int failed = 0;
        int from = args.length > 0 ? Integer.parseInt(args[0]) : 0;
        int runs = args.length > 1 ? Integer.parseInt(args[1]) : RUNS;
        for (int run = from; run < from + runs && failed < 5; run++) {
            ModelTest test = new ModelTest(run);
            test.go();
            failed += test.wrong ? 1 : 0;
        }
        System.out.println("ModelTest: " + runs + " runs, " + failed + " wrong");
        if (failed > 0) {
            System.exit(1);
        }
    }

    private int up(int n) {
        return random.nextInt(n);
    }

    private boolean rarely() {
        return up(12) == 0;
    }

    /** Below n mostly, else any number that may be wrong. */
    private int arg(int n) {
        if (rarely()) {
            return new int[] {-1, -2, n, n + 1, 8, 64, 1000, Integer.MAX_VALUE, Integer.MIN_VALUE}[up(9)];
        }
        return n <= 0 ? up(2) : up(n);
    }

    /** What later calls answer is free. */
    private void due(String call, long got, long want) {
        trace.add(call + " -> " + got);
        calls++;
        if (got != want && !wrong && calls <= CALLS) {
            wrong = true;
            System.out.println("run " + run + ": " + call + " answered " + got + ", the model says " + want);
            for (String line : trace.subList(Math.max(0, trace.size() - 12), trace.size())) {
                System.out.println("    " + line);
            }
        }
    }

    private void due(String call, boolean got, boolean want) {
        due(call, got ? 1 : 0, want ? 1 : 0);
    }

    private void put(int[] bytes) {
        for (int[] c : Tape.calls(bytes)) {
            due("feed", x.feed(c[0], c[1], c[2], c[3], c[4]), m.feed(c));
        }
        due("end " + bytes.length, x.end(bytes.length), m.end(bytes.length));
    }

    private void put(String text) {
        trace.add("tape: " + text);
        put(Tape.bytes(text));
    }

    private void go() {
        for (int i = 0; calls < CALLS && !wrong; i++) {
            if (i == 2 || up(80) == 0) {
                newPlain();
            } else {
                call();
            }
        }
    }

    private void newPlain() {
        String text = new Texts(random).plain();
        if (up(3) == 0) {
            text = new Texts(random).spoiled(text);
        }
        put(text);
        due("plain()", x.plain(), m.plain());
        faults();
        topics = Math.max(0, m.has(2));
        people = Math.max(0, m.has(3));
    }

    private void faults() {
        for (int what = -1; what < 3; what++) {
            due("fault " + what, x.fault(what), m.fault(what));
        }
    }

    private void look() {
        switch (up(6)) {
            case 0 -> {
                for (int k = -1; k < 11; k++) {
                    due("has " + k, x.has(k), m.has(k));
                }
            }
            case 1 -> {
                for (int k = -1; k < 7; k++) {
                    due("status " + k, x.status(k), m.status(k));
                }
            }
            case 2 -> lookAtCells();
            case 3 -> lookAtPeople();
            case 4 -> lookAtNames();
            default -> lookAtKept();
        }
    }

    private void lookAtCells() {
        int r = up(8) == 0 ? -1 : up(8);
        for (int c = -1; c < 8; c++) {
            due("height " + c + " " + r, x.height(c, r), m.height(c, r));
            due("pond " + c + " " + r, x.pond(c, r), m.pond(c, r));
        }
    }

    private void lookAtPeople() {
        int p = arg(people);
        for (int k = -1; k < 6; k++) {
            due("person " + p + " " + k, x.person(p, k), m.person(p, k));
            due("would " + p + " " + k, x.would(p, k), m.would(p, k));
        }
    }

    private void lookAtNames() {
        int kind = arg(2);
        int which = arg(kind == 0 ? topics : people);
        for (int k = -1; k < 7; k++) {
            due("letter " + kind + " " + which + " " + k, x.letter(kind, which, k), m.letter(kind, which, k));
        }
        int row = arg(13);
        for (int what = -1; what < 3; what++) {
            due("list " + row + " " + what, x.list(row, what), m.list(row, what));
        }
    }

    private void lookAtKept() {
        due("has 7", x.has(7), m.has(7));
        for (int k = up(4) - 1; k < 42; k += 1 + up(12)) {
            for (int what = rarely() ? -1 : 0; what < 4; what++) {
                due("kept " + k + " " + what, x.kept(k, what), m.kept(k, what));
            }
        }
    }

    private void call() {
        switch (up(26)) {
            case 0, 1 -> {
                int p = arg(people);
                int t = arg(topics);
                due("asks " + p + " " + t, x.asks(p, t), m.asks(p, t));
            }
            case 2 -> {
                int p = arg(people);
                int t = arg(topics);
                int on = arg(2);
                due("teach " + p + " " + t + " " + on, x.teach(p, t, on), m.teach(p, t, on));
            }
            case 3 -> {
                int p = arg(people);
                int c = arg(7);
                int r = arg(7);
                due("go " + p + " " + c + " " + r, x.go(p, c, r), m.go(p, c, r));
            }
            case 4 -> {
                int p = arg(people);
                due("ease " + p, x.ease(p), m.ease(p));
            }
            case 5 -> {
                int n = up(3) == 0 ? up(103) - 1 : up(6);
                due("days " + n, x.days(n), m.days(n));
            }
            case 6 -> {
                int n = up(3) == 0 ? up(103) - 1 : up(6);
                due("chance " + n, x.chance(n), m.chance(n));
            }
            case 7 -> due("undo", x.undo(), m.undo());
            case 8 -> {
                int s = up(4) == 0 ? random.nextInt() : up(100);
                due("seed " + s, x.seed(s), m.seed(s));
            }
            case 9, 10 -> question();
            case 11, 12 -> image();
            case 13 -> {
                int c = arg(7);
                int r = arg(7);
                int n = up(63) - 1;
                due("later " + c + " " + r + " " + n, x.later(c, r, n), m.later(c, r, n));
            }
            case 14 -> {
                int p = arg(people);
                int n = up(63) - 1;
                due("tired " + p + " " + n, x.tired(p, n), m.tired(p, n));
            }
            case 15 -> {
                int c = arg(7);
                int r = arg(7);
                int h = up(4) == 0 ? up(140) - 20 : Math.max(0, m.height(c, r)) + up(12);
                due("rises " + c + " " + r + " " + h, x.rises(c, r, h), m.rises(c, r, h));
            }
            case 16, 17 -> plan();
            case 18 -> {
                int f = number();
                int t = number();
                due("way " + f + " " + t, x.way(f, t), m.way(f, t));
            }
            case 19 -> {
                int f = number();
                int t = number();
                int n = up(people > 4 ? 8 : 23) - 1;
                due("keeps " + f + " " + t + " " + n, x.keeps(f, t, n), m.keeps(f, t, n));
            }
            case 20 -> {
                int n = up(people > 4 ? 8 : 23) - 1;
                due("rest " + n, x.rest(n), m.rest(n));
            }
            case 21 -> see();
            case 22, 23 -> {
                int t = arg(topics);
                due("who " + t, x.who(t), m.who(t));
                int what = arg(3);
                due("tells " + t + " " + what, x.tells(t, what), m.tells(t, what));
            }
            case 24 -> {
                int n = up(6) == 0 ? random.nextInt() : up(30) - 3;
                due("end " + n, x.end(n), m.end(n));
                int[] c = {random.nextInt(), random.nextInt(), random.nextInt(), random.nextInt(), random.nextInt()};
                for (int k = up(40) == 0 ? 81 : up(2); k > 0; k--) {
                    due("feed", x.feed(c[0], c[1], c[2], c[3], c[4]), m.feed(c));
                }
                due("end 0", x.end(0), m.end(0));
            }
            default -> look();
        }
    }

    private int number() {
        return rarely() ? arg(56) : 8 * up(Math.max(1, m.has(1))) + up(Math.max(1, m.has(0)));
    }

    private void plan() {
        // The model tries all rows, so three askings of many people take it too long but now and then.
        if (people * topics > 10 && up(40) != 0) {
            return;
        }
        int u = number();
        int s = number();
        int h = up(4) == 0 ? arg(100) : Math.max(0, m.height(u % 8, u / 8)) + up(24);
        for (int k = -2; k < 4; k++) {
            due("plan " + u + " " + h + " " + s + " " + k, x.plan(u, h, s, k), m.plan(u, h, s, k));
        }
    }

    private void question() {
        String text = new Texts(random).question();
        if (up(4) == 0) {
            text = new Texts(random).spoiled(text);
        }
        put(text);
        due("ask()", x.ask(), m.ask());
        faults();
    }

    private void image() {
        due("image()", x.image(), m.image());
        for (int k = up(8) - 2; k < 82; k += 1 + up(up(6) == 0 ? 1 : 30)) {
            due("octet " + k, x.octet(k), m.octet(k));
        }
        if (up(3) != 0) {
            return;
        }
        List<Integer> bytes = new ArrayList<>(m.image);
        if (up(4) == 0) {
            bytes.set(0, 3);
            bytes.set(1, 200 + up(33));
        }
        for (int k = up(3); k > 0; k--) {
            bytes.set(up(bytes.size()), up(4) == 0 ? up(256) : up(8));
        }
        if (up(5) == 0) {
            bytes.add(up(bytes.size()), up(9));
        }
        if (up(6) != 0) {
            bytes.set(bytes.size() - 1, Model.check(bytes.subList(0, bytes.size() - 1)));
        }
        put(bytes.stream().mapToInt(Integer::intValue).toArray());
        due("on()", x.on(), m.on());
    }

    private void see() {
        List<Integer> bytes = new ArrayList<>();
        Model.State later = null;
        int topic = up(Math.max(1, topics));
        if (people > 0 && topics > 0) {
            later = m.askedThen(up(people), topic, 0);
        }
        int day = 0;
        for (int k = up(10) == 0 ? up(18) : up(3); k > 0; k--) {
            int c = up(Math.max(1, m.has(0)));
            int r = up(Math.max(1, m.has(1)));
            for (int n = up(3); n > 0 && later != null && day < 30; n--) {
                m.day(later, 0);
                day++;
            }
            bytes.add(up(20) == 0 ? up(33) : day);
            bytes.add(up(20) == 0 ? up(9) : c);
            bytes.add(up(20) == 0 ? up(9) : r);
            bytes.add(later == null || up(20) == 0 ? up(103) : later.high[r][c]);
        }
        if (rarely()) {
            bytes.add(up(9));
        }
        put(bytes.stream().mapToInt(Integer::intValue).toArray());
        due("see()", x.see(), m.see());
    }
}
