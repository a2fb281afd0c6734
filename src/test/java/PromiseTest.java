import java.lang.reflect.Method;

/** Each promise of the document: ordinary inputs, edges, wrong inputs; the answers are worked out by hand. */
public final class PromiseTest {
    private static final int NONE = -1;
    private static final long NOTHING = -1000000000000000L;

    /** All heights 50. p, asked t, lifts 0 1 and 2 1 to 53 and takes 1 from each cell of rows 0 and 2. */
    private static final String PAIR = "plain 3 by 3;topic t;topic u;person p at 1 1 tired 0;person q at 0 0 tired 4;"
            + "knows q of t;asks p of t;asks q of u;";

    /** All that a plain can have: p to v stand from 0 0 to 6 6, v alone is asked; he lifts 5 6. */
    private static final String FULL = "plain 7 by 7;topic a;topic b;topic c;topic d;topic e;person p at 0 0 tired 0;"
            + "person q at 1 1 tired 1;person r at 2 2 tired 2;person s at 3 3 tired 3;person t at 4 4 tired 4;"
            + "person u at 5 5 tired 5;person v at 6 6 tired 6;knows u of e;" + "asks v of e;".repeat(12);

    private static int wrong;
    private static int checked;

    private PromiseTest() {
    }

    public static void main(String[] args) throws ReflectiveOperationException {
        for (int n = 1; n <= 36; n++) {
            Method test = PromiseTest.class.getDeclaredMethod("promise" + n);
            test.invoke(null);
        }
        System.out.println("PromiseTest: " + checked + " answers, " + wrong + " wrong");
        if (wrong > 0) {
            System.exit(1);
        }
    }

    private static void due(String what, long got, long want) {
        checked++;
        if (got != want) {
            wrong++;
            StackTraceElement[] stack = new Throwable().getStackTrace();
            String at = "";
            for (StackTraceElement e : stack) {
                if (e.getMethodName().startsWith("promise")) {
                    at = e.getMethodName() + ", line " + e.getLineNumber() + ": ";
                    break;
                }
            }
            System.out.println(at + what + " answered " + got + ", due is " + want);
        }
    }

    private static void due(String what, boolean got, boolean want) {
        due(what, got ? 1 : 0, want ? 1 : 0);
    }

    private static ShrugHills hills(String text) {
        ShrugHills x = new ShrugHills();
        Tape.put(x, text);
        if (x.plain() == NONE) {
            due("plain() of " + text + " with fault " + x.fault(0) + " at " + x.fault(1), 0, 1);
        }
        return x;
    }

    private static long ask(ShrugHills x, String text) {
        Tape.put(x, text);
        return x.ask();
    }

    private static void heights(ShrugHills x, int... want) {
        int k = 0;
        for (int row = 0; row < x.has(1); row++) {
            for (int column = 0; column < x.has(0); column++) {
                due("height " + column + " " + row, x.height(column, row), want[k++]);
            }
        }
    }

    /** The text has that fault at that place, or none (0), as a plain. */
    private static void fault(String text, int kind, int place) {
        ShrugHills x = new ShrugHills();
        Tape.put(x, text);
        x.plain();
        due("fault of " + text, x.fault(0), kind);
        due("its place in " + text, x.fault(1), place);
        due("refused of " + text, x.status(1), kind == 0 ? 0 : 1);
    }

    /** The same behind "plain 3 by 3;" (13 bytes). */
    private static void faultBehind(String text, int kind, int place) {
        fault("plain 3 by 3;" + text, kind, place == NONE ? NONE : 13 + place);
    }

    private static void askFault(String text, int kind, int place) {
        ShrugHills x = hills(PAIR);
        long answer = ask(x, text);
        due("nothing for " + text, answer == NOTHING, kind != 0);
        due("fault of " + text, x.fault(0), kind);
        due("its place in " + text, x.fault(1), place);
    }

    static void promise1() {
        ShrugHills x = new ShrugHills();
        for (int what = 0; what < 10; what++) {
            due("has " + what, x.has(what), 0);
        }
        for (int what = 0; what < 6; what++) {
            due("status " + what, x.status(what), 0);
        }
        due("fault", x.fault(0), 0);
        due("place", x.fault(1), NONE);
        due("height", x.height(0, 0), NONE);
        due("person", x.person(0, 0), NONE);
        due("octet", x.octet(0), NONE);
        due("pond", x.pond(0, 0), NONE);
        due("way", x.way(0, 0), NONE);
        due("rest", x.rest(1), NONE);
        due("who", x.who(0), NONE);
        due("end 0", x.end(0), true);
        due("end 1", x.end(1), false);
        due("NONE", ShrugHills.NONE, NONE);
        due("NOTHING", ShrugHills.NOTHING, NOTHING);
    }

    static void promise2() {
        ShrugHills x = new ShrugHills();
        for (int k = 1; k <= 80; k++) {
            due("feed", x.feed(-1, 0x01020304, 0, 7, 9), 20 * k);
        }
        due("feed", x.feed(0, 0, 0, 0, 0), NONE);
        due("refused", x.status(0), 1);
        due("end", x.end(1600), true);
        due("end", x.end(1581), true);
        due("feed", x.feed(0, 0, 0, 0, 0), NONE);
        due("end", x.end(1580), true);
        due("feed", x.feed(0, 0, 0, 0, 0), 1600);
        due("refused", x.status(0), 2);
        // "plain 3 by 3;" with its highest bytes first.
        x = new ShrugHills();
        x.feed(0x706c6169, 0x6e203320, 0x62792033, 0x3b202020, 0x0a0a0a0a);
        due("plain", x.plain(), 1);
        due("columns", x.has(0), 3);
    }

    static void promise3() {
        ShrugHills x = new ShrugHills();
        due("end -1", x.end(-1), false);
        due("end least", x.end(Integer.MIN_VALUE), false);
        x.feed(0x706c6169, 0x6e203320, 0x62792033, 0x3b783b78, 0);
        due("end 21", x.end(21), false);
        due("refused", x.status(0), 3);
        due("end 20", x.end(20), true);
        due("end 13", x.end(13), true);
        due("end 14", x.end(14), false);
        due("plain", x.plain(), 1);
        due("end 1 of what went", x.end(1), false);
        due("end 0", x.end(0), true);
    }

    static void promise4() {
        faultsOfTheText();
        faultsOfNumbersAndNames();
        faultsOfDepth();
        faultsOfCounts();
        ShrugHills x = hills(PAIR);
        x.days(3);
        Tape.put(x, 0, 0, 0, 49);
        x.see();
        x.seed(4711);
        Tape.put(x, "plain 9");
        due("plain", x.plain(), NONE);
        due("the day stays", x.has(5), 3);
        due("what is kept stays", x.has(7), 3);
        due("what is seen stays", x.has(8), 1);
        due("what can be undone stays", x.has(9), 1);
        due("the tape went", x.end(1), false);
        Tape.put(x, "plain 4 by 5;high 3 4 7;high 3 4 8;high 0 0 99;topic a;person b at 2 1 tired 9;crowd 100;crowd 0;");
        due("plain", x.plain(), 8);
        due("columns", x.has(0), 4);
        due("rows", x.has(1), 5);
        due("topics", x.has(2), 1);
        due("people", x.has(3), 1);
        due("list", x.has(4), 0);
        due("day", x.has(5), 0);
        due("heights", x.has(6), 18 * 50 + 8 + 99);
        due("kept", x.has(7), 0);
        due("seen", x.has(8), 0);
        due("undone", x.has(9), 0);
        due("the last height counts", x.height(3, 4), 8);
        due("the tape went", x.end(1), false);
        // The last crowd is 0, so no draw makes a crowd; the seed stayed.
        due("chance", x.chance(50), 0);
        defaults();
    }

    private static void defaults() {
        ShrugHills x = hills("plain 3 by 3;topic t;person p at 1 1 tired 7;");
        due("never held", x.asks(0, 0), 2);
        heights(x, 49, 49, 49, 53, 50, 53, 49, 49, 49);
        due("tired+1", x.person(0, 2), 8);
        due("tired+1", x.asks(0, 0) * 10 + x.person(0, 2), 29);
        due("9 at most", x.asks(0, 0) * 10 + x.person(0, 2), 29);
        String bare = "plain 3 by 3;topic t;person p at 1 1 tired 0;";
        for (int k = 0; k < 4; k++) {
            Tape.put(x, k < 2 ? bare + "knows p of t;asks p of t;high 0 0 9;lifts 9;tires 9;holds all;crowd 100;" : bare);
            due("plain", x.plain(), k < 2 ? 10 : 3);
        }
        due("nothing is left of an older one", x.has(6) * 10 + x.has(4), 4500);
        due("nothing is known", x.person(0, 3), 0);
        x.seed(seedOf(0));
        due("no crowd", x.chance(1) * 10 + x.has(7), 0);
        due("never held", x.asks(0, 0), 2);
        heights(x, 49, 49, 49, 53, 50, 53, 49, 49, 49);
        due("tired+1", x.person(0, 2), 1);
    }

    private static void faultsOfTheText() {
        fault("", 1, 0);
        fault(" \n ", 1, 3);
        fault("x;", 1, 0);
        fault("topic t;", 1, 0);
        fault(";", 1, 0);
        fault("plai", 1, 0);
        fault("plainx 3 by 3;", 1, 0);
        fault("Plain 3 by 3;", 1, 0);
        fault("plain", 1, 5);
        fault("plain ", 1, 6);
        fault("plain3 by 3;", 1, 5);
        fault("plain 3by 3;", 1, 7);
        fault("plain 3 by3;", 1, 10);
        fault("plain x", 1, 6);
        fault("plain 3 at 3;", 1, 8);
        fault("plain 3 by 3", 1, 12);
        fault("plain 3 by 3 ", 1, 13);
        fault("plain 3 by 3 3;", 1, 13);
        fault("plain 3 by 3\t;", 1, 12);
        fault("plain 0003 by\n7 ; \n", 0, NONE);
        fault("\nplain 7 by 3;", 0, NONE);
        faultBehind("plain 3 by 3;", 1, 0);
        faultBehind(";", 1, 0);
        faultBehind("tops a;", 1, 0);
        faultBehind("first all;", 1, 0);
        faultBehind("high 0 0;", 1, 8);
        faultBehind("topic;", 1, 5);
        faultBehind("topic a b;", 1, 8);
        faultBehind("topic a1;", 1, 7);
        faultBehind("topic aB;", 1, 7);
        faultBehind("topic 1;", 1, 6);
        faultBehind("topic abcdef;", 0, NONE);
        faultBehind("topic abcdefgh;", 1, 12);
        faultBehind("topic column;", 1, 6);
        faultBehind("topic columns;", 1, 12);
        faultBehind("topic first;topic last;person often at 0 0 tired 0;", 0, NONE);
        faultBehind("knows abcdefgh", 1, 12);
        faultBehind("knows of", 1, 6);
        faultBehind("crowd 00001;", 1, 10);
        faultBehind("crowd 12345;", 1, 10);
        faultBehind("lifts;", 1, 5);
        faultBehind("lifts 1+;", 1, 8);
        faultBehind("lifts 3 4;", 1, 8);
        faultBehind("lifts number;", 1, 6);
        faultBehind("lifts all;", 1, 6);
        faultBehind("lifts side;", 0, NONE);
        faultBehind("tires side;", 1, 6);
        faultBehind("holds side>1;", 1, 6);
        faultBehind("holds 1;", 1, 7);
        faultBehind("holds 1<2<3;", 1, 9);
        faultBehind("holds (1<2);", 1, 8);
        faultBehind("holds [1<2;", 1, 10);
        faultBehind("holds [1<2]=1;", 1, 11);
        faultBehind("holds all and not all or [all];", 0, NONE);
        faultBehind("holds all3", 1, 9);
        faultBehind("lifts min 3", 1, 10);
        faultBehind("lifts min(3)", 1, 11);
        faultBehind("lifts max(3,4,5)", 1, 13);
        faultBehind("lifts min(3,max(4,5))*(2);", 0, NONE);
        faultBehind("lifts 12345;", 1, 10);
    }

    private static void faultsOfNumbersAndNames() {
        fault("plain 2 by 3;", 2, 6);
        fault("plain 8", 2, 6);
        fault("plain 9by", 2, 6);
        fault("plain 3 by 8;", 2, 11);
        faultBehind("high 3 0 0;", 2, 5);
        faultBehind("high 2 3 0;", 2, 7);
        faultBehind("high 2 2 100;", 2, 9);
        faultBehind("high 2 2 99;high 0 0 0;", 0, NONE);
        faultBehind("crowd 101;", 2, 6);
        faultBehind("crowd 100;", 0, NONE);
        faultBehind("person p at 3 0 tired 0;", 2, 12);
        faultBehind("person p at 0 3 tired 0;", 2, 14);
        faultBehind("person p at 0 0 tired 10;", 2, 22);
        faultBehind("person p at 0 0 tired 9;person q at 0 0 tired 9;", 2, 38);
        faultBehind("person p at 0 0 tired 9;person q at 0 1 tired 9;", 0, NONE);
        faultBehind("topic a;topic a;", 3, 14);
        faultBehind("topic a;person a", 3, 15);
        faultBehind("person p at 0 0 tired 9;topic p", 3, 30);
        faultBehind("topic t;knows t of t;", 3, 14);
        faultBehind("person p at 0 0 tired 9;knows p of p;", 3, 35);
        faultBehind("asks p of t;person p at 0 0 tired 9;topic t;", 3, 5);
        faultBehind("topic t;person p at 0 0 tired 9;knows p of t;knows p of t;", 3, 56);
        faultBehind("topic t;person p at 0 0 tired 9;asks p of t;asks p of t;", 0, NONE);
        faultBehind("topic t;person p at 0 0 tired 9;asks p of q;", 3, 42);
    }

    private static void faultsOfDepth() {
        faultBehind("lifts ((((((1))))));", 0, NONE);
        faultBehind("lifts (((((((1)))))));", 4, 12);
        faultBehind("lifts ((((((1))))))+((((((1))))));", 0, NONE);
        faultBehind("lifts (((((min(1,2))))));", 0, NONE);
        faultBehind("lifts ((((((min(1,2)))))));", 4, 15);
        faultBehind("lifts ((((((min 1", 1, 16);
        faultBehind("lifts min((((((1))))),(((((2))))));", 0, NONE);
        faultBehind("lifts min(((((((1", 4, 15);
        faultBehind("lifts max(1,((((((1", 4, 17);
        faultBehind("holds not not not not not not all;", 0, NONE);
        faultBehind("holds not not not not not not not all;", 4, 30);
        faultBehind("holds not not not not not not all and not not not not not not all;", 0, NONE);
        faultBehind("holds [[[[[[all]]]]]];", 0, NONE);
        faultBehind("holds [[[[[[[all]]]]]]];", 4, 12);
        faultBehind("holds not [not [(1)<(((2)))]] or [[[[[[all]]]]]];", 4, 22);
        faultBehind("holds not [not [(1)<((2))]] or [[[[[[all]]]]]];", 0, NONE);
        faultBehind("holds not not not not not not 1<(2);", 4, 32);
    }

    private static void faultsOfCounts() {
        String topics = "topic a;topic b;topic c;topic d;topic e;";
        faultBehind(topics, 0, NONE);
        faultBehind(topics + "topic", 5, 40);
        StringBuilder people = new StringBuilder();
        for (int k = 0; k < 7; k++) {
            people.append("person ").append((char) ('p' + k)).append(" at ").append(k % 3).append(' ').append(k / 3)
                    .append(" tired 0;");
        }
        faultBehind(people.toString(), 0, NONE);
        faultBehind(people + " person p", 5, people.length() + 1);
        String asks = "topic t;person p at 0 0 tired 0;" + "asks p of t;".repeat(12);
        faultBehind(asks, 0, NONE);
        faultBehind(asks + "asks x", 5, asks.length());
        faultBehind("lifts 1;lifts 1;", 5, 8);
        faultBehind("tires 1;tires 1;", 5, 8);
        faultBehind("holds all;holds", 5, 10);
        faultBehind("lifts 1;tires 1;holds all;", 0, NONE);
        String crowds = "crowd 1;".repeat(79);
        faultBehind(crowds, 0, NONE);
        faultBehind(crowds + " ~", 5, crowds.length() + 1);
        faultBehind(crowds + "crowd 1;", 5, crowds.length());
        ShrugHills x = hills("plain 3 by 3;" + crowds);
        due("crowd", x.has(0), 3);
    }

    static void promise5() {
        ShrugHills x = new ShrugHills();
        due("ahead of any", x.fault(0), 0);
        due("ahead of any", x.fault(1), NONE);
        Tape.put(x, "plain 3 by 9");
        x.plain();
        due("fault", x.fault(0), 2);
        due("place", x.fault(1), 11);
        due("another", x.fault(2), NONE);
        due("another", x.fault(-1), NONE);
        Tape.put(x, "total 1");
        x.ask();
        due("a question without a plain does nothing else", x.fault(0), 2);
        Tape.put(x, PAIR);
        x.plain();
        due("without one", x.fault(0), 0);
        due("without one", x.fault(1), NONE);
        ask(x, "total");
        due("of a question", x.fault(0), 1);
        due("of a question", x.fault(1), 5);
        x.see();
        x.on();
        due("of no other call", x.fault(1), 5);
        ask(x, "total 1");
        due("without one", x.fault(0), 0);
        due("without one", x.fault(1), NONE);
    }

    static void promise6() {
        ShrugHills x = hills(PAIR + "high 2 2 0;");
        int[] want = {3, 3, 2, 2, 2, 0, 400, 0, 0, 0};
        for (int what = 0; what < 10; what++) {
            due("has " + what, x.has(what), want[what]);
        }
        due("has 10", x.has(10), NONE);
        due("has -1", x.has(-1), NONE);
        due("all 49", hills(FULL).has(6), 2450);
        x.days(1);
        Tape.put(x, 0, 0, 0, 1, 0, 1, 0, 2);
        x.see();
        due("day", x.has(5), 1);
        due("heights", x.has(6), 400);
        due("kept", x.has(7), 1);
        due("seen", x.has(8), 2);
        due("undone", x.has(9), 1);
    }

    static void promise7() {
        ShrugHills x = hills("plain 3 by 3;topic azby;person zzzzzz at 0 0 tired 0;topic m;");
        int[] azby = {1, 26, 2, 25, 0, 0};
        for (int k = 0; k < 6; k++) {
            due("letter", x.letter(0, 0, k), azby[k]);
            due("letter", x.letter(1, 0, k), 26);
            due("letter", x.letter(0, 1, k), k == 0 ? 13 : 0);
        }
        due("k 6", x.letter(0, 0, 6), NONE);
        due("k -1", x.letter(0, 0, -1), NONE);
        due("topic 2", x.letter(0, 2, 0), NONE);
        due("topic -1", x.letter(0, -1, 0), NONE);
        due("person 1", x.letter(1, 1, 0), NONE);
        due("kind 2", x.letter(2, 0, 0), NONE);
        due("kind -1", x.letter(-1, 0, 0), NONE);
    }

    static void promise8() {
        ShrugHills x = hills("plain 4 by 3;high 3 0 11;high 0 2 22;high 3 2 0;");
        due("3 0", x.height(3, 0), 11);
        due("0 2", x.height(0, 2), 22);
        due("3 2", x.height(3, 2), 0);
        due("0 0", x.height(0, 0), 50);
        due("4 0", x.height(4, 0), NONE);
        due("0 3", x.height(0, 3), NONE);
        due("-1 0", x.height(-1, 0), NONE);
        due("0 -1", x.height(0, -1), NONE);
    }

    static void promise9() {
        ShrugHills x = hills(PAIR);
        int[][] want = {{1, 1, 0, 0}, {0, 0, 4, 1}};
        for (int p = 0; p < 2; p++) {
            for (int what = 0; what < 4; what++) {
                due("person", x.person(p, what), want[p][what]);
            }
            due("another what", x.person(p, 4), NONE);
            due("another what", x.person(p, -1), NONE);
        }
        due("person 2", x.person(2, 0), NONE);
        due("person -1", x.person(-1, 0), NONE);
        x.teach(1, 1, 1);
        due("bits", x.person(1, 3), 3);
    }

    static void promise10() {
        ShrugHills x = hills(PAIR);
        due("list", x.list(0, 0), 0);
        due("list", x.list(0, 1), 0);
        due("list", x.list(1, 0), 1);
        due("list", x.list(1, 1), 1);
        due("row 2", x.list(2, 0), NONE);
        due("row -1", x.list(-1, 0), NONE);
        due("what 2", x.list(0, 2), NONE);
        due("what -1", x.list(0, -1), NONE);
    }

    static void promise11() {
        ShrugHills x = hills(PAIR + "holds tired>3 and topic=1 or day=2;");
        due("shrugs", x.would(0, 0), 2);
        due("shrugs", x.would(0, 1), 2);
        due("answers", x.would(1, 0), 0);
        due("holds", x.would(1, 1), 1);
        due("nothing is moved", x.has(6) * 10 + x.has(7), 4500);
        x.days(2);
        due("holds on day 2", x.would(0, 0), 1);
        due("answers on day 2", x.would(1, 0), 0);
        due("person 2", x.would(2, 0), NONE);
        due("topic 2", x.would(0, 2), NONE);
        due("person -1", x.would(-1, 0), NONE);
        due("topic -1", x.would(0, -1), NONE);
    }

    static void promise12() {
        ShrugHills x = hills(PAIR);
        x.days(2);
        x.asks(1, 0);
        int[][] want = {{0, 0, 0, 6}, {1, 1, 1, 3}};
        for (int k = 0; k < 2; k++) {
            for (int what = 0; what < 4; what++) {
                due("kept", x.kept(k, what), want[k][what]);
            }
        }
        due("answers are not kept", x.kept(2, 0), NONE);
        due("kept -1", x.kept(-1, 0), NONE);
        due("what 4", x.kept(0, 4), NONE);
        due("what -1", x.kept(0, -1), NONE);
        x.days(43);
        due("the last 40", x.has(7), 40);
        due("the oldest", x.kept(0, 0), 5);
        due("the latest", x.kept(39, 0), 44);
        due("no more", x.kept(40, 0), NONE);
        ShrugHills none = hills("plain 3 by 3;topic t;person p at 1 1 tired 0;lifts 0;holds tired>0;");
        none.asks(0, 0);
        none.asks(0, 0);
        due("a shrug that lifts nothing is kept, what is held is not", none.has(7), 1);
        due("nothing", none.kept(0, 3), 0);
    }

    static void promise13() {
        ShrugHills x = hills(PAIR);
        due("now", x.later(0, 1, 0), 50);
        due("a day", x.later(0, 1, 1), 53);
        due("a day", x.later(1, 1, 1), 50);
        // q lifts 1 0 by 3, taken from 0 1, 2 1, 0 1: 53 53 become 51 52.
        due("two days", x.later(0, 1, 2), 51);
        due("two days", x.later(2, 1, 2), 52);
        due("two days", x.later(1, 0, 2), 52);
        due("two days", x.later(0, 0, 2), 49);
        due("all stays", x.height(0, 1), 50);
        due("60", x.later(0, 1, 60) != NONE, true);
        due("61", x.later(0, 1, 61), NONE);
        due("-1", x.later(0, 1, -1), NONE);
        due("no cell", x.later(3, 1, 1), NONE);
        due("no cell", x.later(0, -1, 1), NONE);
        toDay(x, 950);
        due("day 999", x.later(0, 1, 49) != NONE, true);
        due("day 1000", x.later(0, 1, 50), NONE);
    }

    /** Days pass without a shrug, as all know all. */
    private static void toDay(ShrugHills x, int day) {
        for (int p = 0; p < x.has(3); p++) {
            for (int t = 0; t < x.has(2); t++) {
                x.teach(p, t, 1);
            }
        }
        while (x.has(5) < day) {
            x.days(Math.min(100, day - x.has(5)));
        }
        due("day", x.has(5), day);
    }

    static void promise14() {
        ShrugHills x = hills(PAIR);
        due("now", x.tired(1, 0), 4);
        due("a day", x.tired(0, 1), 1);
        due("a day", x.tired(1, 1), 4);
        due("two days", x.tired(1, 2), 5);
        due("60 days", x.tired(1, 60), 9);
        due("61", x.tired(1, 61), NONE);
        due("-1", x.tired(1, -1), NONE);
        due("person 2", x.tired(2, 0), NONE);
        due("person -1", x.tired(-1, 0), NONE);
        due("all stays", x.person(1, 2), 4);
        toDay(x, 999);
        due("day 999", x.tired(1, 0), 4);
        due("day 1000", x.tired(1, 1), NONE);
    }

    static void promise15() {
        ShrugHills x = hills("plain 3 by 3;topic t;person p at 1 1 tired 0;asks p of t;lifts 1;");
        due("now", x.rises(0, 1, 50), 0);
        due("now", x.rises(0, 1, Integer.MIN_VALUE), 0);
        due("51", x.rises(0, 1, 51), 1);
        due("99", x.rises(2, 1, 99), 49);
        due("100", x.rises(0, 1, 100), NONE);
        due("taken from", x.rises(0, 0, 51), NONE);
        due("no cell", x.rises(3, 0, 0), NONE);
        due("no cell", x.rises(0, -1, 0), NONE);
        ShrugHills slow = hills("plain 3 by 3;topic t;person p at 1 1 tired 0;asks p of t;lifts day/59;");
        due("59 days are not enough", slow.rises(0, 1, 51), 60);
        due("60 at most", slow.rises(0, 1, 52), NONE);
        ShrugHills late = hills("plain 3 by 3;topic t;topic u;person p at 1 1 tired 0;asks p of t;asks p of u;");
        late.teach(0, 0, 1);
        toDay(late, 997);
        late.teach(0, 1, 0);
        due("on day 997 u is asked", late.rises(0, 1, 53), 1);
        late.days(2);
        due("so high now", late.rises(0, 1, 53), 0);
        due("not beyond day 999", late.rises(0, 1, 56), NONE);
    }

    static void promise16() {
        ShrugHills x = hills(PAIR);
        due("it is so", x.plan(0, 50, 1, NONE), 0);
        due("it is so", x.plan(0, 0, 0, NONE), 0);
        due("no asking 0", x.plan(0, 50, 1, 0), NONE);
        due("one", x.plan(8, 53, 9, NONE), 1);
        due("p, t", x.plan(8, 53, 9, 0), 0);
        due("no asking 1", x.plan(8, 53, 9, 1), NONE);
        // p takes from 0 0, but for what q has lifted beside him twice.
        due("0 0 stays", x.plan(8, 51, 0, NONE), 3);
        due("q, u", x.plan(8, 51, 0, 0), 9);
        due("q, u", x.plan(8, 51, 0, 1), 9);
        due("p, t", x.plan(8, 51, 0, 2), 0);
        due("2 2 does not stay", x.plan(8, 56, 18, NONE), NONE);
        // q knows t; u is topic 1: 8 + 1. p would take from 1 0.
        due("q, u", x.plan(1, 53, 0, NONE), 1);
        due("q, u", x.plan(1, 53, 0, 0), 9);
        due("three", x.plan(8, 59, 9, NONE), 3);
        due("three", x.plan(8, 59, 9, 2), 0);
        due("not four", x.plan(8, 60, 9, NONE), NONE);
        due("none lifts 9 up", x.plan(9, 51, 0, NONE), NONE);
        due("up and stay", x.plan(8, 51, 8, NONE), NONE);
        due("99", x.plan(8, 99, 9, NONE), NONE);
        due("100", x.plan(8, 100, 9, NONE), NONE);
        due("-1", x.plan(8, -1, 9, NONE), NONE);
        due("no cell 3", x.plan(3, 0, 9, NONE), NONE);
        due("no cell 24", x.plan(0, 0, 24, NONE), NONE);
        due("no cell -1", x.plan(-1, 0, 0, NONE), NONE);
        due("no cell -8", x.plan(0, 0, -8, NONE), NONE);
        due("k -2", x.plan(8, 53, 9, -2), NONE);
        due("all stays", x.height(0, 1), 50);
        due("up to 99", hills(PAIR + "high 0 1 96;").plan(8, 99, 9, NONE), 1);
        due("9 by one", hills(PAIR + "lifts 9;").plan(8, 59, 9, NONE), 1);
        due("27 by three", hills(PAIR + "lifts 9;").plan(8, 77, 9, NONE), 3);
        due("28 by none", hills(PAIR + "lifts 9;").plan(8, 78, 9, NONE), NONE);
        ShrugHills full = hills(FULL);
        due("v, a", full.plan(53, 53, 54, NONE), 1);
        due("v, a", full.plan(53, 53, 54, 0), 48);
        due("v three times", full.plan(53, 59, 54, 2), 48);
        ShrugHills byTires = hills("plain 3 by 3;topic t;topic u;person p at 1 1 tired 0;lifts tired;tires topic*4;");
        due("u, t", byTires.plan(8, 54, 9, NONE), 2);
        due("u", byTires.plan(8, 54, 9, 0), 1);
        due("t", byTires.plan(8, 54, 9, 1), 0);
        ShrugHills byHolds = hills("plain 3 by 3;topic t;topic u;person p at 1 1 tired 0;holds topic=0;");
        due("u", byHolds.plan(8, 53, 9, 0), 1);
        ShrugHills by = hills("plain 3 by 3;topic t;topic u;person p at 1 1 tired 0;lifts topic*4;holds tired=1 and topic=1;");
        // u lifts 4, but is held once he is tired by one; t lifts nothing and tires.
        due("u, t, u", by.plan(8, 58, 9, NONE), 3);
        due("u", by.plan(8, 58, 9, 0), 1);
        due("t", by.plan(8, 58, 9, 1), 0);
        due("u", by.plan(8, 58, 9, 2), 1);
        due("u alone", by.plan(8, 54, 9, 0), 1);
        ShrugHills back = hills("plain 3 by 3;topic t;person p at 1 1 tired 0;person q at 1 2 tired 0;lifts 3;");
        due("p is asked", back.plan(8, 53, 9, 0), 0);
        due("q is asked", back.plan(16, 53, 17, 0), 8);
    }

    static void promise17() {
        ShrugHills x = hills("plain 3 by 3;high 1 0 60;high 1 1 55;high 1 2 50;high 0 1 52;");
        due("itself", x.way(0, 0), 0);
        due("a step", x.way(0, 1), 11);
        due("back", x.way(1, 0), 11);
        // 0 0 (50), 0 1 (52), 0 2 (50), 1 2 (50), 2 2 (50), 2 1 (50), 2 0: 3 + 3 + 1 + 1 + 1 + 1.
        due("around", x.way(0, 2), 10);
        due("down", x.way(0, 18), 8);
        due("no cell", x.way(0, 3), NONE);
        due("no cell", x.way(-1, 0), NONE);
        due("no cell", x.way(0, 24), NONE);
        due("no cell", x.way(Integer.MIN_VALUE, Integer.MAX_VALUE), NONE);
        due("flat", hills("plain 7 by 7;").way(0, 54), 12);
        // A wall in each second column, with a gap by turns at the bottom and at the top.
        StringBuilder walls = new StringBuilder("plain 7 by 7;");
        for (int column = 1; column < 7; column += 2) {
            for (int row = 0; row < 6; row++) {
                walls.append("high ").append(column).append(' ').append(column == 3 ? row + 1 : row).append(" 99;");
            }
        }
        due("winding", hills(walls.toString()).way(0, 6), 30);
        due("winding back", hills(walls.toString()).way(6, 0), 30);
    }

    static void promise18() {
        ShrugHills x = hills("plain 4 by 3;high 0 0 40;high 2 0 40;high 1 1 40;high 3 1 30;high 3 2 20;high 1 2 10;");
        due("of like ones the first", x.pond(1, 0), 0);
        due("row by row", x.pond(0, 1), 0);
        due("none is lower", x.pond(0, 0), 0);
        due("on and on", x.pond(3, 0), 19);
        due("the lowest", x.pond(1, 1), 17);
        due("the lowest", x.pond(2, 2), 17);
        due("flat", hills("plain 3 by 3;").pond(2, 2), 18);
        due("no cell", x.pond(4, 0), NONE);
        due("no cell", x.pond(0, 3), NONE);
        due("no cell", x.pond(-1, 0), NONE);
        // Down along all 49 cells but for the walls is too long to tell; a slope of a whole plain is not.
        StringBuilder slope = new StringBuilder("plain 7 by 7;");
        for (int column = 0; column < 7; column++) {
            slope.append("high ").append(column).append(" 0 ").append(40 - column).append(';');
            slope.append("high 6 ").append(column).append(' ').append(34 - column).append(';');
        }
        due("down the slope", hills(slope.toString()).pond(0, 0), 54);
        due("first down, then along", hills(slope.toString()).pond(0, 1), 54);
    }

    static void promise19() {
        ShrugHills x = hills(PAIR);
        due("no more than now", x.keeps(0, 1, 1), 0);
        due("p", x.keeps(8, 9, 1), 1);
        // q lifts 1 0 to 53 or so on day 1; without p too, 0 0 to 1 0 costs 4.
        due("q", x.keeps(0, 1, 2), 2);
        due("itself", x.keeps(4 + 5, 9, 20), 0);
        due("0 days", x.keeps(8, 9, 0), NONE);
        due("20 days", x.keeps(8, 9, 20) != NONE, true);
        due("21 days", x.keeps(8, 9, 21), NONE);
        due("no cell", x.keeps(3, 9, 1), NONE);
        due("no cell", x.keeps(8, -1, 1), NONE);
        due("all stays", x.has(5), 0);
        ShrugHills two = hills("plain 3 by 3;topic t;person p at 1 0 tired 0;person q at 1 2 tired 0;asks p of t;"
                + "asks q of t;lifts 9;");
        due("both", two.keeps(0, 18, 2), 3);
        two.days(1);
        due("the other", two.keeps(16, 17, 1), 2);
        due("v of seven", hills(FULL).keeps(53, 54, 1), 64);
        toDay(x, 998);
        due("day 999", x.keeps(8, 9, 1), 0);
        due("day 1000", x.keeps(8, 9, 2), NONE);
    }

    static void promise20() {
        ShrugHills x = hills("plain 3 by 3;topic t;person p at 0 0 tired 0;person q at 1 1 tired 0;high 0 0 90;"
                + "asks q of t;");
        // q takes 6 from p's own cell, but has nothing of it, nor can p do a thing about it.
        due("none", x.rest(1), 0);
        ShrugHills y = hills("plain 3 by 3;topic t;person p at 0 1 tired 0;person q at 2 1 tired 0;person r at 1 0 tired 0;"
                + "asks r of t;asks p of t;lifts 9;high 1 1 0;high 0 1 90;high 2 2 80;high 2 1 89;");
        due("as when the silent ones are taught all", y.rest(2), restByHand(y, 2));
        due("0 days", x.rest(0), NONE);
        due("21 days", x.rest(21), NONE);
        due("20 days", x.rest(20) != NONE, true);
        due("without a plain", new ShrugHills().rest(1), NONE);
        due("without people", hills("plain 3 by 3;").rest(20), 0);
        // p's shrug takes 2 2 down to 60, so that q, who comes next, takes from p's own cell; else from 2 2 alone.
        ShrugHills z = hills("plain 3 by 3;topic t;person p at 1 1 tired 0;person q at 1 0 tired 0;high 1 1 60;"
                + "high 2 2 65;asks p of t;asks q of t;lifts 3;");
        due("p keeps silent", z.rest(2), 1);
        ShrugHills full = hills("plain 7 by 7;topic t;person a at 0 6 tired 0;person b at 1 6 tired 0;"
                + "person c at 2 6 tired 0;person d at 3 6 tired 0;person e at 4 6 tired 0;person q at 1 0 tired 0;"
                + "person p at 1 1 tired 0;high 1 1 60;high 2 2 65;asks p of t;asks q of t;");
        // p silent is at rest, too (64), but q silent has less bits.
        due("of seven the last but one", full.rest(2), 32);
        toDay(z, 998);
        due("day 999", z.rest(1), 0);
        due("day 1000", z.rest(2), NONE);
    }

    /** By teaching the silent ones all, letting the days pass, and undoing it. */
    private static int restByHand(ShrugHills x, int n) {
        int people = x.has(3);
        int[][] own = new int[1 << people][people];
        for (int set = 0; set < 1 << people; set++) {
            int acts = x.has(9);
            for (int p = 0; p < people; p++) {
                for (int t = 0; t < x.has(2); t++) {
                    if ((set >> p & 1) == 1) {
                        x.teach(p, t, 1);
                    }
                }
            }
            x.days(n);
            for (int p = 0; p < people; p++) {
                own[set][p] = x.height(x.person(p, 0), x.person(p, 1));
            }
            while (x.has(9) > acts) {
                x.undo();
            }
        }
        for (int size = 0; size <= people; size++) {
            for (int set = 0; set < 1 << people; set++) {
                boolean rests = Integer.bitCount(set) == size;
                for (int p = 0; p < people; p++) {
                    rests &= own[set ^ 1 << p][p] <= own[set][p];
                }
                if (rests) {
                    return set;
                }
            }
        }
        return NONE;
    }

    static void promise21() {
        ShrugHills x = hills(PAIR);
        Tape.put(x, 30, 2, 2, 99, 0, 0, 0, 0);
        due("two rows", x.see(), 2);
        due("the tape went", x.end(1), false);
        int[][] none = {{}, {31, 0, 0, 0}, {0, 3, 0, 0}, {0, 0, 3, 0}, {0, 0, 0, 100}, {0, 0, 0}, {0, 0, 0, 0, 0},
            {0, 0, 0, 0, 0, 0, 0, 200}, new int[68]};
        for (int k = 0; k < none.length; k++) {
            Tape.put(x, none[k]);
            due("see", x.see(), NONE);
            due("refused", x.status(1), k + 1);
            due("stays", x.has(8), 2);
            due("the tape went", x.end(1), false);
        }
        Tape.put(x, new int[64]);
        due("16 rows", x.see(), 16);
        Tape.put(x, 0, 0, 0, 7);
        due("anew", x.see(), 1);
        ShrugHills without = new ShrugHills();
        Tape.put(without, 0, 0, 0, 0);
        due("without a plain", without.see(), NONE);
    }

    static void promise22() {
        ShrugHills x = hills(PAIR);
        due("all", x.who(0), 3);
        due("topic 2", x.who(2), NONE);
        due("topic -1", x.who(-1), NONE);
        Tape.put(x, 0, 0, 1, 53);
        x.see();
        due("p", x.who(0), 1);
        due("p", x.who(1), 1);
        Tape.put(x, 0, 1, 0, 53);
        x.see();
        due("none", x.who(0), 0);
        due("q", x.who(1), 2);
        // Asked u now, q lifts 1 0 by what he takes from 2 0, 0 1, 1 1.
        Tape.put(x, 0, 2, 0, 49, 0, 0, 1, 49, 1, 0, 1, 52);
        x.see();
        due("q, and all of it", x.who(1), 2);
        Tape.put(x, 0, 2, 0, 49, 0, 0, 1, 49, 1, 0, 1, 53);
        x.see();
        due("all of it", x.who(1), 0);
        due("all stays", x.has(6) * 100 + x.has(7) * 10 + x.has(5), 45000);
        Tape.put(x, 0, 0, 0, 50, 30, 0, 0, 50);
        x.see();
        toDay(x, 969);
        due("day 999", x.who(0), 3);
        x.days(1);
        due("beyond 999", x.who(0), 0);
        Tape.put(x, 29, 0, 0, 50);
        x.see();
        due("day 999", x.who(0), 3);
        due("nobody", hills("plain 3 by 3;topic t;").who(0), 0);
        ShrugHills full = hills(FULL);
        due("all seven", full.who(4), 127);
        Tape.put(full, 0, 5, 6, 53);
        full.see();
        due("v", full.who(4), 64);
        int[] rows = new int[64];
        for (int k = 0; k < 16; k++) {
            rows[4 * k + 1] = 6;
            rows[4 * k + 2] = 6;
            rows[4 * k + 3] = 50;
        }
        Tape.put(full, rows);
        full.see();
        due("none moves 6 6", full.who(4), 127);
        rows[61] = 5;
        rows[63] = 53;
        Tape.put(full, rows);
        full.see();
        due("the last row counts", full.who(4), 64);
    }

    static void promise23() {
        ShrugHills x = hills(PAIR);
        // Asked t, q answers and nothing moves; p takes 1 from 0 0.
        due("day", x.tells(0, 0), 0);
        due("cell", x.tells(0, 1), 0);
        due("left", x.tells(0, 2), 1);
        // Asked u, q lifts 1 0 and leaves 0 0; p takes from 0 0.
        due("cell", x.tells(1, 1), 0);
        due("what 3", x.tells(0, 3), NONE);
        due("what -1", x.tells(0, -1), NONE);
        due("topic 2", x.tells(2, 0), NONE);
        due("topic -1", x.tells(-1, 0), NONE);
        Tape.put(x, 0, 1, 1, 1);
        x.see();
        due("without any", x.tells(0, 2), NONE);
        Tape.put(x, 0, 1, 0, 53);
        x.see();
        due("one", x.tells(1, 0), 0);
        due("one", x.tells(1, 1), 0);
        due("one", x.tells(1, 2), 1);
        due("nobody", hills("plain 3 by 3;topic t;").tells(0, 2), NONE);
        // All that is asked is held, so nothing tells.
        ShrugHills held = hills("plain 3 by 3;topic t;person p at 1 1 tired 0;person q at 1 0 tired 0;holds all;");
        due("day", held.tells(0, 0), 0);
        due("cell", held.tells(0, 1), 0);
        due("both", held.tells(0, 2), 2);
        // Asked now, both only get tired; p, who is asked on day 2, then lifts nothing if he was the one.
        ShrugHills slow = hills("plain 3 by 3;topic t;topic u;person p at 1 1 tired 0;person q at 1 0 tired 0;"
                + "asks q of t;asks q of t;asks p of u;knows q of u;lifts topic*3*(1-tired)*min(1,day);");
        due("behind day 2", slow.tells(0, 0), 3);
        due("the first cell", slow.tells(0, 1), 0);
        due("left", slow.tells(0, 2), 1);
        for (int last = 29; last <= 30; last++) {
            ShrugHills late = hills("plain 3 by 3;topic t;topic u;person p at 1 1 tired 0;person q at 1 0 tired 0;"
                    + "asks p of u;lifts topic*3*(1-tired);holds topic=1 and day<" + last + ";");
            due("30 days at most", late.tells(0, 0), last == 29 ? 30 : 0);
            due("30 days at most", late.tells(0, 2), last == 29 ? 1 : 2);
            due("no days before", late.tells(1, 2), 2);
        }
        due("seven", hills(FULL).tells(0, 2), mostLeftByHand(FULL, 0));
        toDay(slow, 999);
        due("not beyond 999", slow.tells(0, 2), 2);
        due("now", slow.tells(0, 0), 0);
    }

    /** Of a plain of 7 by 7, by asking each and looking at each cell now and on the days behind it. */
    private static int mostLeftByHand(String text, int topic) {
        int fewest = Integer.MAX_VALUE;
        int people = hills(text).has(3);
        int[][][] high = new int[people][31][49];
        for (int p = 0; p < people; p++) {
            for (int n = 0; n <= 30; n++) {
                ShrugHills x = hills(text);
                x.asks(p, topic);
                for (int cell = 0; cell < 49; cell++) {
                    high[p][n][cell] = x.later(cell % 7, cell / 7, n);
                }
            }
        }
        for (int n = 0; n <= 30; n++) {
            for (int cell = 0; cell < 49; cell++) {
                int[] counts = new int[100];
                int most = 0;
                for (int p = 0; p < people; p++) {
                    most = Math.max(most, ++counts[high[p][n][cell]]);
                }
                fewest = Math.min(fewest, most);
            }
        }
        return fewest;
    }

    static void promise24() {
        ShrugHills x = hills(PAIR + "holds tired=5;");
        due("shrugs", x.asks(0, 0), 2);
        heights(x, 49, 49, 49, 53, 50, 53, 49, 49, 49);
        due("tired", x.person(0, 2), 1);
        due("answers", x.asks(1, 0), 0);
        due("shrugs", x.asks(1, 1), 2);
        heights(x, 49, 52, 49, 51, 50, 52, 49, 49, 49);
        due("holds", x.asks(1, 1), 1);
        due("the day stays", x.has(5), 0);
        due("acts", x.has(9), 4);
        due("kept", x.has(7), 2);
        due("person 2", x.asks(2, 0), NONE);
        due("person -1", x.asks(-1, 0), NONE);
        due("topic 2", x.asks(0, 2), NONE);
        due("topic -1", x.asks(0, -1), NONE);
        due("refused", x.status(2), 4);
        due("acts", x.has(9), 4);
        liftsByTheRules();
    }

    private static void liftsByTheRules() {
        ShrugHills x = hills("plain 3 by 3;topic t;person p at 1 1 tired 2;high 0 1 95;high 2 1 20;lifts side/10;tires height-45;");
        x.asks(0, 0);
        // Four to 99, then no more; two on the right, from the seventh cell on by turns.
        heights(x, 49, 49, 49, 99, 50, 22, 49, 49, 49);
        due("tired by height", x.person(0, 2), 5);
        due("kept", x.kept(0, 3), 6);
        ShrugHills low = hills("plain 3 by 3;topic t;person p at 1 0 tired 2;high 0 0 0;high 1 0 0;high 2 0 0;high 0 1 0;"
                + "high 1 1 0;high 2 1 3;high 0 2 0;high 1 2 1;high 2 2 0;lifts 99;tires 0-1;");
        low.asks(0, 0);
        heights(low, 4, 0, 0, 0, 0, 0, 0, 0, 0);
        due("tired 0 at least", low.person(0, 2), 0);
        due("kept", low.kept(0, 3), 4);
        ShrugHills nine = hills("plain 3 by 3;topic t;person p at 2 2 tired 2;lifts 10;tires 10;high 0 0 60;");
        nine.asks(0, 0);
        heights(nine, 51, 50, 50, 50, 50, 50, 50, 59, 50);
        due("tired 9 at most", nine.person(0, 2), 9);
        ShrugHills less = hills("plain 3 by 3;topic t;person p at 2 2 tired 2;lifts 0-5;");
        due("below is 0", less.asks(0, 0) * 100 + less.kept(0, 3), 200);
        sums();
    }

    /** By questions: all from the left on, bounds, division. */
    private static void sums() {
        ShrugHills x = hills("plain 3 by 3;person p at 1 2 tired 3;");
        due("left", ask(x, "total 10-3-2"), 5);
        due("left", ask(x, "total 100/7/3"), 4);
        due("left", ask(x, "total 7/2*2"), 6);
        due("products ahead", ask(x, "total 1+2*3"), 7);
        due("brackets", ask(x, "total (1+2)*3"), 9);
        due("not above", ask(x, "total (0-7)/2"), -4);
        due("not above", ask(x, "total 7/(0-2)"), -4);
        due("not above", ask(x, "total (0-8)/(0-2)"), 4);
        due("by 0", ask(x, "total 7/0"), 0);
        due("by 0", ask(x, "total 7/(3-tired)+2"), 2);
        due("bound", ask(x, "total 9999*9999"), 1000000);
        due("bound", ask(x, "total 9999*9999+1-1"), 999999);
        due("bound", ask(x, "total 0-9999*9999-1"), -1000000);
        due("bound", ask(x, "total 0-9999*9999-1+1"), -999999);
        due("bound", ask(x, "total (0-9999)*9999*9999"), -1000000);
        due("min", ask(x, "total min(3,2)*10+max(3,2)"), 23);
    }

    static void promise25() {
        ShrugHills x = hills(PAIR);
        due("taught", x.teach(0, 1, 1), true);
        due("bits", x.person(0, 3), 2);
        due("already", x.teach(0, 1, 1), false);
        due("answers", x.would(0, 1), 0);
        due("forgets", x.teach(1, 0, 0), true);
        due("bits", x.person(1, 3), 0);
        due("already", x.teach(1, 0, 0), false);
        due("on 2", x.teach(0, 0, 2), false);
        due("on -1", x.teach(0, 0, -1), false);
        due("person 2", x.teach(2, 0, 1), false);
        due("person -1", x.teach(-1, 0, 1), false);
        due("topic 2", x.teach(0, 2, 1), false);
        due("topic -1", x.teach(0, -1, 1), false);
        due("refused", x.status(2), 8);
        due("acts", x.has(9), 2);
    }

    static void promise26() {
        ShrugHills x = hills(PAIR);
        due("one is in it", x.go(0, 0, 0), false);
        due("he himself", x.go(0, 1, 1), false);
        due("goes", x.go(0, 2, 0), true);
        due("column", x.person(0, 0), 2);
        due("row", x.person(0, 1), 0);
        due("free now", x.go(1, 1, 1), true);
        due("no cell", x.go(0, 3, 0), false);
        due("no cell", x.go(0, 0, 3), false);
        due("the seventh is in it", hills(FULL).go(0, 6, 6), false);
        due("no cell", x.go(0, -1, 0), false);
        due("person 2", x.go(2, 0, 0), false);
        due("person -1", x.go(-1, 0, 0), false);
        due("refused", x.status(2), 7);
        due("acts", x.has(9), 2);
        // p at 2 0 has a cell to the left alone; the highest elsewhere are those of rows 1 and 2.
        x.asks(0, 0);
        heights(x, 49, 53, 50, 49, 49, 50, 50, 50, 50);
    }

    static void promise27() {
        ShrugHills x = hills(PAIR);
        due("not tired", x.ease(0), false);
        due("rests", x.ease(1), true);
        due("tired", x.person(1, 2), 0);
        due("not tired", x.ease(1), false);
        due("person 2", x.ease(2), false);
        due("person -1", x.ease(-1), false);
        due("refused", x.status(2), 4);
        due("acts", x.has(9), 1);
    }

    static void promise28() {
        ShrugHills x = hills(PAIR);
        due("one", x.days(1), 1);
        heights(x, 49, 49, 49, 53, 50, 53, 49, 49, 49);
        due("one", x.days(1), 1);
        heights(x, 49, 52, 49, 51, 50, 52, 49, 49, 49);
        due("day", x.has(5), 2);
        due("acts", x.has(9), 2);
        x.teach(0, 0, 1);
        due("p answers", x.days(4), 2);
        due("acts", x.has(9), 4);
        due("0", x.days(0), NONE);
        due("-1", x.days(-1), NONE);
        due("101", x.days(101), NONE);
        due("without a plain", new ShrugHills().days(1), NONE);
        due("refused", x.status(3), 3);
        due("100", x.days(100), 50);
        due("day", x.has(5), 106);
        ShrugHills none = hills("plain 3 by 3;");
        due("without a list", none.days(100), 0);
        toDay(none, 990);
        due("beyond 999", none.days(10), NONE);
        due("to 999", none.days(9), 0);
        due("beyond 999", none.days(1), NONE);
        due("day", none.has(5), 999);
        due("refused", none.status(3), 2);
    }

    static void promise29() {
        // The seed 1: draws floor(x / 64) mod m, worked out below.
        ShrugHills x = hills(PAIR + "crowd 100;");
        long seed = next(1);
        long person = next(seed);
        long topic = next(person);
        int p = (int) (person / 64 % 2);
        int t = (int) (topic / 64 % 2);
        ShrugHills y = hills(PAIR);
        int deed = y.asks(p, t);
        y.days(1);
        due("shrugs of crowds", x.chance(1), deed == 2 ? 1 : 0);
        for (int c = 0; c < 3; c++) {
            for (int r = 0; r < 3; r++) {
                due("height", x.height(c, r), y.height(c, r));
            }
        }
        due("kept", x.has(7), y.has(7));
        due("one act", x.has(9), 1);
        due("day", x.has(5), 1);
        due("some of 100", x.chance(100) > 0, true);
        due("one act", x.has(9), 2);
        due("0", x.chance(0), NONE);
        due("101", x.chance(101), NONE);
        due("-1", x.chance(-1), NONE);
        due("refused", x.status(3), 3);
        due("without a plain", new ShrugHills().chance(1), NONE);
        crowdsByHand();
        int[][] edges = {{0, 0, 0}, {0, 1, 1}, {99, 99, 0}, {99, 100, 1}};
        for (int[] edge : edges) {
            ShrugHills one = hills("plain 3 by 3;topic t;person p at 1 1 tired 0;crowd " + edge[1] + ";");
            one.seed(seedOf(edge[0]));
            due("a draw of " + edge[0] + " by crowd " + edge[1], one.chance(1), edge[2]);
        }
        ShrugHills none = hills("plain 3 by 3;crowd 100;topic t;");
        due("nobody", none.chance(100), 0);
        toDay(none, 999);
        due("beyond 999", none.chance(1), NONE);
    }

    /** A seed whose draw of 100 is the one told. */
    private static int seedOf(int draw) {
        int seed = 0;
        while (next(seed) / 64 % 100 != draw) {
            seed++;
        }
        return seed;
    }

    private static long next(long x) {
        return (1103515245L * x + 12345L) % (1L << 31);
    }

    /** Half a crowd: the draws go on from day to day, two more where a crowd asks. */
    private static void crowdsByHand() {
        ShrugHills x = hills(PAIR + "crowd 50;");
        ShrugHills y = hills(PAIR);
        x.seed(12345);
        long seed = 12345;
        int shrugs = 0;
        for (int day = 0; day < 30; day++) {
            seed = next(seed);
            if (seed / 64 % 100 < 50) {
                seed = next(seed);
                int p = (int) (seed / 64 % 2);
                seed = next(seed);
                shrugs += y.asks(p, (int) (seed / 64 % 2)) == 2 ? 1 : 0;
            }
            y.days(1);
        }
        due("shrugs of crowds", x.chance(30), shrugs);
        for (int what = 0; what < 4; what++) {
            due("person", x.person(0, what), y.person(0, what));
            due("person", x.person(1, what), y.person(1, what));
            due("kept", x.kept(39, what), y.kept(39, what));
        }
        due("heights", x.height(1, 0), y.height(1, 0));
    }

    static void promise30() {
        ShrugHills x = hills(PAIR);
        due("none", x.undo(), false);
        due("refused", x.status(4), 1);
        x.days(50);
        x.image();
        int check = x.octet(19);
        int oldest = x.kept(0, 0);
        x.days(100);
        due("undone", x.undo(), true);
        x.image();
        due("all is as it was", x.octet(19), check);
        due("kept as it was", x.kept(0, 0), oldest);
        due("kept", x.has(7), 40);
        due("undone", x.undo(), true);
        heights(x, 50, 50, 50, 50, 50, 50, 50, 50, 50);
        due("day", x.has(5), 0);
        due("kept", x.has(7), 0);
        due("tired", x.person(1, 2), 4);
        due("none", x.undo(), false);
        x.asks(1, 0);
        due("an answer is an act", x.undo(), true);
        for (int k = 0; k < 25; k++) {
            x.teach(0, 0, 1 - k % 2);
        }
        due("20", x.has(9), 20);
        for (int k = 0; k < 20; k++) {
            due("undone", x.undo(), true);
        }
        due("none", x.undo(), false);
        due("the sixth stays", x.person(0, 3), 1);
        ShrugHills full = hills(FULL);
        full.go(6, 0, 6);
        full.teach(6, 4, 1);
        for (int k = 0; k < 25; k++) {
            full.days(1);
        }
        full.ease(6);
        for (int k = 0; k < 20; k++) {
            due("undone", full.undo(), true);
            due("day by day", full.has(5), 25 - k);
            due("tired", full.person(6, 2), 6);
        }
        due("none", full.undo(), false);
        for (int k = 6; k < 76; k++) {
            full.days(1);
        }
        for (int k = 0; k < 20; k++) {
            due("undone", full.undo(), true);
            due("day by day", full.has(5), 75 - k);
        }
        due("none", full.undo(), false);
        ShrugHills last = hills(FULL);
        last.go(6, 0, 6);
        last.teach(6, 4, 1);
        last.ease(6);
        last.undo();
        last.undo();
        last.undo();
        due("column", last.person(6, 0), 6);
        due("row", last.person(6, 1), 6);
        due("tired", last.person(6, 2), 6);
        due("known", last.person(6, 3), 0);
        x.go(0, 2, 2);
        x.ease(1);
        x.undo();
        due("tired", x.person(1, 2), 4);
        x.undo();
        due("column", x.person(0, 0), 1);
        seedStays();
    }

    private static void seedStays() {
        ShrugHills x = hills(PAIR + "crowd 50;");
        ShrugHills y = hills(PAIR + "crowd 50;");
        x.chance(7);
        x.undo();
        long seed = 1;
        for (int day = 0; day < 7; day++) {
            seed = next(seed);
            if (seed / 64 % 100 < 50) {
                seed = next(next(seed));
            }
        }
        y.seed((int) seed);
        due("the seed stays", x.chance(60), y.chance(60));
        x.image();
        y.image();
        for (int k = 0; k < 20; k++) {
            due("octet", x.octet(k), y.octet(k));
        }
    }

    static void promise31() {
        ShrugHills x = hills(PAIR + "crowd 50;");
        ShrugHills y = hills(PAIR + "crowd 50;");
        due("1 at first", y.seed(1), true);
        due("same", x.chance(60), y.chance(60));
        due("same", x.has(7) * 1000 + x.height(1, 0), y.has(7) * 1000 + y.height(1, 0));
        due("0", x.seed(0), true);
        due("the greatest", x.seed(Integer.MAX_VALUE), true);
        due("-1", x.seed(-1), false);
        due("the least", x.seed(Integer.MIN_VALUE), false);
        due("refused", x.status(5), 2);
        y.seed(Integer.MAX_VALUE);
        due("a refused one changes nothing", x.chance(30), y.chance(30));
        due("no act", hills(PAIR).seed(3) && y.has(9) == 2, true);
    }

    static void promise32() {
        ShrugHills x = hills(PAIR + "high 1 1 70;person r at 2 2 tired 9;");
        due("first", ask(x, "first tired>0"), 1);
        due("last", ask(x, "last tired>0"), 2);
        due("often", ask(x, "often tired>0"), 2);
        due("first none", ask(x, "first tired>9"), NONE);
        due("last none", ask(x, "last not all"), NONE);
        due("often none", ask(x, "often not all"), 0);
        due("total", ask(x, "total tired"), 13);
        due("most", ask(x, "most tired"), 9);
        due("least", ask(x, "least tired"), 0);
        due("below 0", ask(x, "most 0-1-tired"), -1);
        due("below 0", ask(x, "least 0-1-tired"), -10);
        due("number", ask(x, "total number*number"), 5);
        due("column", ask(x, "total column"), 3);
        due("row", ask(x, "total row"), 3);
        due("height", ask(x, "total height"), 170);
        due("known", ask(x, "total known"), 1);
        due("day", ask(x, "total day"), 0);
        due("knows", ask(x, "first knows 0=1"), 1);
        due("knows", ask(x, "often knows 1=1"), 0);
        due("knows none such", ask(x, "total knows 2+knows 9999+knows (0-1)"), 0);
        due("lifts", ask(x, "total lifts 1*10"), 120);
        due("lifts", ask(x, "most lifts 0"), 6);
        due("lifts what he knows", ask(x, "first lifts 0=0"), 1);
        due("lifts none such", ask(x, "total lifts 2"), 0);
        due("lifts of knows", ask(x, "total lifts knows 0"), 12);
        due("and ahead of or", ask(x, "often all or all and not all"), 3);
        due("brackets", ask(x, "often [all or all] and not all"), 0);
        due("not", ask(x, "often not not tired=0"), 1);
        due("knows none such", ask(x, "total knows 32"), 0);
        due("lifts none such", ask(x, "total lifts 5+lifts 9999+lifts (0-1)"), 0);
        due("less", ask(x, "often tired<4"), 1);
        due("less", ask(x, "often tired<5"), 2);
        due("more", ask(x, "often tired>4"), 1);
        due("more", ask(x, "often tired>3"), 2);
        due("like", ask(x, "often tired=4"), 1);
        ShrugHills full = hills(FULL);
        due("the last topic", ask(full, "total knows 4*10+knows 3"), 10);
        due("the last topic", ask(full, "last lifts 4=3"), 6);
        due("the last topic", ask(full, "total lifts 4"), 3 + 4 * 6 + 3);
        due("nothing is moved", x.has(7) * 1000 + x.has(6), 470);
        due("the tape went", x.end(1), false);
        x.days(3);
        due("day", ask(x, "most day"), 3);
        due("total is no sum of the language", ask(x, "total 9999*9999"), 3000000);
        ShrugHills none = hills("plain 3 by 3;");
        due("nobody", ask(none, "first all"), NONE);
        due("nobody", ask(none, "often all"), 0);
        due("nobody", ask(none, "most 5") + ask(none, "least 5") + ask(none, "total 5"), 0);
        ShrugHills without = new ShrugHills();
        due("without a plain", ask(without, "often all"), NOTHING);
        due("the tape went", without.end(1), false);
        questionFaults();
    }

    private static void questionFaults() {
        askFault("", 1, 0);
        askFault("  ", 1, 2);
        askFault("tired", 1, 0);
        askFault("firsts all", 1, 0);
        askFault("first", 1, 5);
        askFault("first 1", 1, 7);
        askFault("first all all", 1, 10);
        askFault("total 1;", 1, 7);
        askFault("total all", 1, 6);
        askFault("total topic", 1, 6);
        askFault("total side", 1, 6);
        askFault("total p", 1, 6);
        askFault("total5", 1, 5);
        askFault("total knows", 1, 11);
        askFault("total knows0", 1, 11);
        askFault("total knows t", 1, 12);
        askFault("total 12345", 1, 10);
        askFault("total 9999", 0, NONE);
        askFault("\n total\n1 ", 0, NONE);
        askFault("total knows lifts knows lifts knows lifts 1", 0, NONE);
        askFault("total knows lifts knows lifts knows lifts (1)", 4, 42);
        askFault("total knows lifts knows lifts knows lifts knows 1", 4, 42);
        askFault("total lifts 1+lifts 1+lifts 1+lifts 1+lifts 1+lifts 1+lifts 1", 0, NONE);
        askFault("first not [not knows (lifts 1)=1 and not [not [1=1]]]", 0, NONE);
        askFault("first not [not knows (lifts 1)=1 and not [not [(1)=1]]]", 4, 47);
        askFault("first not [not [not [not all]]]", 4, 21);
    }

    static void promise33() {
        ShrugHills without = new ShrugHills();
        due("without a plain", without.image(), 3);
        ShrugHills x = hills(PAIR);
        due("bytes", x.image(), 2 + 9 + 8 + 1);
        x.days(2);
        due("bytes", x.image(), 20);
        int[] want = {0, 2, 49, 52, 49, 51, 50, 52, 49, 49, 49, 1, 1, 1, 0, 0, 0, 5, 1};
        int check = 227;
        for (int k = 0; k < want.length; k++) {
            due("octet", x.octet(k), want[k]);
            check = (3 * check + want[k]) % 251;
        }
        due("check", x.octet(19), check);
        StringBuilder text = new StringBuilder("plain 7 by 7;");
        for (int k = 0; k < 7; k++) {
            text.append("person ").append((char) ('p' + k)).append(" at ").append(k).append(" 6 tired 0;");
        }
        ShrugHills large = hills(text.toString());
        toDay(large, 300);
        due("the most", large.image(), 80);
        due("the day's higher byte", large.octet(0), 1);
        due("the day's lower byte", large.octet(1), 44);
    }

    static void promise34() {
        ShrugHills x = new ShrugHills();
        due("none yet", x.octet(0), NONE);
        x.image();
        due("octet", x.octet(2), 35);
        due("behind", x.octet(3), NONE);
        due("-1", x.octet(-1), NONE);
        Tape.put(x, PAIR);
        x.plain();
        due("still the latest image", x.octet(2), 35);
        x.image();
        x.days(1);
        due("still the latest image", x.octet(1), 0);
        due("last", x.octet(19) >= 0, true);
        due("behind", x.octet(20), NONE);
    }

    private static boolean on(ShrugHills x, int... ahead) {
        int[] bytes = java.util.Arrays.copyOf(ahead, ahead.length + 1);
        int check = 227;
        for (int b : ahead) {
            check = (3 * check + b) % 251;
        }
        bytes[ahead.length] = check;
        Tape.put(x, bytes);
        return x.on();
    }

    static void promise35() {
        ShrugHills x = hills(PAIR);
        x.days(2);
        Tape.put(x, 0, 0, 0, 49);
        x.see();
        due("on", on(x, 3, 231, 0, 1, 2, 3, 4, 5, 6, 7, 99, 2, 2, 9, 3, 2, 1, 0, 0), true);
        due("the tape went", x.end(1), false);
        heights(x, 0, 1, 2, 3, 4, 5, 6, 7, 99);
        int[][] people = {{2, 2, 9, 3}, {2, 1, 0, 0}};
        for (int k = 0; k < 8; k++) {
            due("person", x.person(k / 4, k % 4), people[k / 4][k % 4]);
        }
        due("day", x.has(5), 999);
        due("kept", x.has(7), 0);
        due("undone", x.has(9), 0);
        due("what is seen stays", x.has(8), 1);
        int[] good = {0, 7, 0, 1, 2, 3, 4, 5, 6, 7, 99, 2, 2, 9, 3, 2, 1, 0, 0};
        int[][] bad = {{0, 4}, {10, 100}, {2, 255}, {11, 3}, {12, 3}, {13, 10}, {14, 4}, {16, 2}, {15, 9}, {18, 255}};
        for (int k = 0; k < bad.length; k++) {
            int[] bytes = good.clone();
            bytes[bad[k][0]] = bad[k][1];
            due("byte " + bad[k][0], on(x, bytes), false);
            due("refused", x.status(5), k + 1);
            due("the tape went", x.end(1), false);
        }
        int[] late = good.clone();
        late[0] = 3;
        late[1] = 232;
        due("day 1000", on(x, late), false);
        due("too long", on(x, java.util.Arrays.copyOf(good, 20)), false);
        due("too short", on(x, java.util.Arrays.copyOf(good, 15)), false);
        due("empty", x.on(), false);
        Tape.put(x, java.util.Arrays.copyOf(good, 20));
        due("without its check", x.on(), false);
        due("all stays", x.has(5), 999);
        due("good", on(x, good), true);
        due("day", x.has(5), 7);
        due("without a plain", on(new ShrugHills(), 0, 0), false);
        ShrugHills y = hills(PAIR);
        y.days(17);
        int[] own = new int[y.image()];
        for (int k = 0; k < own.length; k++) {
            own[k] = y.octet(k);
        }
        Tape.put(x, own);
        due("its own image", x.on(), true);
        due("same day ahead", x.later(0, 1, 9), y.later(0, 1, 9));
    }

    static void promise36() {
        ShrugHills x = hills(PAIR);
        x.feed(0, 0, 0, 0, 0);
        x.end(-1);
        x.end(21);
        x.plain();
        x.see();
        x.asks(9, 9);
        x.teach(9, 9, 1);
        x.go(9, 9, 9);
        x.ease(9);
        x.days(0);
        x.chance(0);
        x.undo();
        x.seed(-1);
        x.on();
        ask(x, "wrong");
        x.later(9, 9, 9);
        int[] want = {2, 2, 4, 2, 1, 2};
        for (int what = 0; what < 6; what++) {
            due("status " + what, x.status(what), want[what]);
        }
        due("status 6", x.status(6), NONE);
        due("status -1", x.status(-1), NONE);
        Tape.put(x, PAIR);
        x.plain();
        due("it stays with a new plain", x.status(2), 4);
    }
}
