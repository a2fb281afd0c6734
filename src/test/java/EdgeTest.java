import java.io.IOException;
import java.util.Arrays;
import java.util.function.Consumer;

/** The words of each promise, one by one, at their boundaries; the words of the terms are TermsTest's. */
public final class EdgeTest {
    private static final int NONE = -1;
    private static final int LEAST = Integer.MIN_VALUE;
    private static final int GREATEST = Integer.MAX_VALUE;
    private static final long NOTHING = -1000000000000000L;

    /** The 2 topics, 2 people, 2 rows of the list that most tests need; q knows t. */
    private static final String PAIR = "plain 3 by 3;topic t;topic u;person p at 1 1 tired 0;person q at 0 0 tired 4;"
            + "knows q of t;asks p of t;asks q of u;";

    /** One who lifts 0 1 and 2 1 by 3 each day. */
    private static final String ONE = "plain 3 by 3;topic t;person p at 1 1 tired 0;asks p of t;";

    /** As much of all as there may be; all stand along the diagonal, g alone is asked, and lifts 5 6. */
    private static final String FULL = "plain 7 by 7;topic ta;topic tb;topic tc;topic td;topic te;"
            + "person a at 0 0 tired 0;person b at 1 1 tired 1;person c at 2 2 tired 2;person d at 3 3 tired 3;"
            + "person e at 4 4 tired 4;person f at 5 5 tired 5;person g at 6 6 tired 9;knows f of te;"
            + "asks g of te;".repeat(12);

    private static Sentences s;

    private EdgeTest() {
    }

    public static void main(String[] args) throws IOException {
        s = new Sentences("EdgeTest");
        tape();
        plains();
        whatIsTold();
        ahead();
        plansWaysWater();
        seen();
        acts();
        questions();
        images();
        s.finish();
    }

    // ---- helpers

    private static ShrugHills hills(String text) {
        ShrugHills x = new ShrugHills();
        Tape.put(x, text);
        s.due("a plain without a fault: " + text, x.plain() != NONE, true);
        return x;
    }

    private static long ask(ShrugHills x, String text) {
        Tape.put(x, text);
        return x.ask();
    }

    private static int[] image(ShrugHills x) {
        int[] bytes = new int[x.image()];
        for (int k = 0; k < bytes.length; k++) {
            bytes[k] = x.octet(k);
        }
        return bytes;
    }

    /** The same bytes, but with the last one that is due. */
    private static int[] checked(int... bytes) {
        int check = 227;
        for (int k = 0; k + 1 < bytes.length; k++) {
            check = (3 * check + bytes[k]) % 251;
        }
        bytes[bytes.length - 1] = check;
        return bytes;
    }

    private static boolean on(ShrugHills x, int... bytes) {
        Tape.put(x, bytes);
        return x.on();
    }

    /** It is that day, all else as it was; nothing is kept or can be undone. */
    private static ShrugHills atDay(ShrugHills x, int day) {
        int[] bytes = image(x);
        bytes[0] = day / 256;
        bytes[1] = day % 256;
        s.due("day " + day, on(x, checked(bytes)) && x.has(5) == day, true);
        return x;
    }

    private static int see(ShrugHills x, int... rows) {
        Tape.put(x, rows);
        return x.see();
    }

    private static String blanks(int n) {
        return " ".repeat(n);
    }

    // ---- promises 1 to 3

    private static void tape() {
        s.constant("NONE");
        s.says("There is none; it is refused.");
        s.due("NONE", ShrugHills.NONE, -1);
        s.constant("NOTHING");
        s.says("Told where a number below 0 may be one.");
        s.due("NOTHING", ShrugHills.NOTHING, NOTHING);
        s.due("a number below 0", ask(hills(PAIR), "least 0-1"), -1);
        s.due("the least that a question can answer", ask(hills(FULL), "total 0-9999*9999"), -7000000);
        newObject();
        feed();
        end();
    }

    private static void newObject() {
        s.promise(1);
        s.says("No plain, nobody.");
        ShrugHills x = new ShrugHills();
        for (int what = 0; what < 10; what++) {
            s.due("has " + what, x.has(what), 0);
        }
        for (int kind = 0; kind < 2; kind++) {
            s.due("letter", x.letter(kind, 0, 0), NONE);
        }
        for (int what = 0; what < 4; what++) {
            s.due("person", x.person(0, what), NONE);
            s.due("kept", x.kept(0, what), NONE);
            s.due("list", x.list(0, what), NONE);
            s.due("tells", x.tells(0, what), NONE);
        }
        s.due("height", x.height(0, 0), NONE);
        s.due("would", x.would(0, 0), NONE);
        s.due("later", x.later(0, 0, 0), NONE);
        s.due("tired", x.tired(0, 0), NONE);
        s.due("rises", x.rises(0, 0, 0), NONE);
        s.due("plan", x.plan(0, 0, 0, NONE), NONE);
        s.due("way", x.way(0, 0), NONE);
        s.due("pond", x.pond(0, 0), NONE);
        s.due("keeps", x.keeps(0, 0, 1), NONE);
        s.due("rest", x.rest(1), NONE);
        s.due("who", x.who(0), NONE);
        s.due("octet", x.octet(0), NONE);
        s.due("fault", x.fault(0), 0);
        s.due("its place", x.fault(1), NONE);
        s.due("an empty tape", x.end(0), true);
        for (int what = 0; what < 6; what++) {
            s.due("status " + what, x.status(what), 0);
        }
        s.due("a byte on the tape", x.end(1), false);
    }

    private static void feed() {
        s.promise(2);
        s.says("Twenty bytes come behind those on the tape, of each number the highest first");
        for (int k = 0; k < 40; k++) {
            // A byte that no text has, among blanks: its place is told.
            ShrugHills x = new ShrugHills();
            int[] bytes = new int[40];
            Arrays.fill(bytes, 32);
            bytes[k] = k % 2 == 0 ? 255 : 128;
            Tape.put(x, bytes);
            x.plain();
            s.due("byte " + k, x.fault(1), k);
        }
        ShrugHills x = new ShrugHills();
        x.feed(0x706c6169, 0x6e203320, 0x62792035, 0x3b206869, 0x67682032);
        x.feed(0x20342039, 0x393b2020, 0x20202020, 0x20202020, 0x20202020);
        s.due("plain 3 by 5; high 2 4 99;", x.plain(), 2);
        s.due("2 4", x.height(2, 4), 99);
        ShrugHills high = hills("plain 3 by 3;");
        // The last bytes of these are all that there are, so numbers below 0 are fed, too.
        int above = 0;
        for (int height = 0; height <= 99; height++) {
            int[] bytes = checked(0, 200, 50, 50, 50, 50, 50, 50, 50, 50, height, 0);
            above += bytes[11] > 127 ? 1 : 0;
            s.due("bytes above 127", on(high, bytes) && high.has(5) == 200 && high.height(2, 2) == height, true);
        }
        s.due("some last bytes are above 127", above > 0, true);
        s.says("how many there are");
        ShrugHills many = new ShrugHills();
        for (int k = 1; k <= 80; k++) {
            s.due("feed", many.feed(k, LEAST, GREATEST, -1, 0), 20 * k);
        }
        many.end(7);
        s.due("behind 7", many.feed(0, 0, 0, 0, 0), 27);
        s.says("NONE, refused (0), if there would be more than 1600");
        for (int length = 1578; length <= 1600; length++) {
            ShrugHills full = new ShrugHills();
            Tape.put(full, "plain 3 by 3;" + blanks(length - 13));
            boolean fits = length <= 1580;
            s.due("behind " + length, full.feed(0x20202020, 0x20202020, 0x20202020, 0x20202020, 0x20202020),
                    fits ? length + 20 : NONE);
            s.due("refused", full.status(0), fits ? 0 : 1);
            s.due("so many", full.end(fits ? length + 20 : length), true);
            s.due("not more", full.end(fits ? length + 21 : length + 1), false);
        }
        ShrugHills full = new ShrugHills();
        Tape.put(full, "plain 3 by 3;" + blanks(1600 - 13));
        for (int k = 0; k < 3; k++) {
            s.due("xxxx", full.feed(0x78787878, 0x78787878, 0x78787878, 0x78787878, 0x78787878), NONE);
        }
        s.due("refused", full.status(0), 3);
        s.due("nothing of it came", full.plain(), 1);
        Twins.refused(s, "feed()", 0, fed(), fed(), y -> y.feed(1, 2, 3, 4, 5));
    }

    /** With 1600 bytes, and so much done that the twins can be seen. */
    private static ShrugHills fed() {
        ShrugHills x = Twins.busy();
        x.end(0);
        Tape.put(x, "total tired*10" + blanks(1586));
        return x;
    }

    private static void end() {
        s.promise(3);
        s.says("The tape has its first n bytes alone: true");
        String text = "plain 3 by 3;x";
        int[] places = {0, 0, 0, 0, 0, 5, 6, 7, 8, 8, 10, 11, 12, NONE, 13};
        for (int n = 0; n <= 14; n++) {
            ShrugHills x = new ShrugHills();
            Tape.put(x, text);
            s.due("end " + n, x.end(n), true);
            s.due("no more than " + n, x.end(n + 1), false);
            s.due("plain of " + n, x.plain(), n == 13 ? 1 : NONE);
            s.due("place of " + n, x.fault(1), places[n]);
        }
        ShrugHills x = new ShrugHills();
        x.feed(0x706c6169, 0x6e203320, 0x62792033, 0x3b787878, 0x78787878);
        s.due("all of them", x.end(20), true);
        s.due("13", x.end(13), true);
        s.due("come behind the 13", x.feed(0x20202020, 0x20202020, 0x20202020, 0x20202020, 0x20202020), 33);
        s.due("what was cut off is gone", x.plain(), 1);
        cutOff();
        s.says("false, refused (0), if it has not so many, or n is below 0");
        int[] wrong = {-1, -2, LEAST, 22, 23, 1600, 1601, GREATEST};
        for (int n : wrong) {
            ShrugHills y = Twins.busy();
            s.due("end " + n, y.end(n), false);
            Twins.refused(s, "end " + n, 0, z -> z.end(n));
        }
        s.due("21 are there", Twins.busy().end(21), true);
        ShrugHills none = new ShrugHills();
        s.due("0 of none", none.end(0), true);
        s.due("1 of none", none.end(1), false);
        s.due("-1 of none", none.end(-1), false);
        s.due("refused", none.status(0), 2);
        ShrugHills most = new ShrugHills();
        Tape.put(most, blanks(1600));
        s.due("1601", most.end(1601), false);
        s.due("1600", most.end(1600), true);
    }

    /** What was cut off would go on with the number, word, mark or blank that the tape ends with. */
    private static void cutOff() {
        String[] texts = {"total 1234", "total day  ", "total 1+1+1", "total known"};
        int[][] lengths = {{7, 8, 9}, {9, 10, 11}, {7, 8, 9}, {8, 9, 11}};
        long[][] answers = {{2, 24, 246}, {0, 0, 0}, {2, NOTHING, 4}, {NOTHING, NOTHING, 1}};
        for (int k = 0; k < 4; k++) {
            for (int i = 0; i < 3; i++) {
                ShrugHills x = hills(PAIR);
                Tape.put(x, texts[k]);
                x.end(lengths[k][i]);
                s.due(lengths[k][i] + " bytes of " + texts[k], x.ask(), answers[k][i]);
            }
        }
        String high = "plain 3 by 3;high 0 0 5099";
        for (int n = 22; n <= 26; n++) {
            ShrugHills x = new ShrugHills();
            Tape.put(x, high);
            x.end(n);
            x.plain();
            s.due("fault of " + n + " bytes", x.fault(0), n > 24 ? 2 : 1);
            s.due("its place", x.fault(1), n > 24 ? 22 : n);
        }
    }

    // ---- promises 4 and 5

    private static void plains() {
        s.promise(4);
        s.says("The tape (it goes) is THE PLAIN");
        String[] texts = {PAIR, "plain 3 by 9", ""};
        for (String text : texts) {
            ShrugHills x = new ShrugHills();
            Tape.put(x, text);
            x.plain();
            s.due("a byte on the tape", x.end(1), false);
            s.due("from the first on", x.feed(0, 0, 0, 0, 0), 20);
        }
        s.says("how many STATEMENTS");
        int[] counts = {1, 2, 3, 40, 79, 80};
        for (int count : counts) {
            ShrugHills x = new ShrugHills();
            Tape.put(x, "plain 3 by 3;" + "crowd 1;".repeat(count - 1));
            s.due(count + " statements", x.plain(), count);
            s.due("refused", x.status(1), 0);
        }
        s.says("NONE, refused (1), with a FAULT");
        String[] faults = {"plain 3 by 4;x", "plain 3 by 4;high 4", "plain 3 by 4;topic t;topic t", "plain 3 by 4;lifts (((((((",
            "plain 3 by 4;lifts 1;lifts"};
        for (int k = 0; k < 5; k++) {
            ShrugHills x = new ShrugHills();
            for (int times = 1; times <= 3; times++) {
                Tape.put(x, faults[k]);
                s.due(faults[k], x.plain(), NONE);
                s.due("its fault", x.fault(0), k + 1);
                s.due("refused", x.status(1), times);
            }
            s.due("none came", x.has(0), 0);
        }
        s.says("(all stays; one without a STATEMENT has FAULT 1 at its length)");
        for (String fault : faults) {
            Twins.refusedTape(s, fault, 1, true, Tape.bytes(fault), ShrugHills::plain);
            Twins.refusedTape(s, fault, 1, false, Tape.bytes(fault), ShrugHills::plain);
        }
        // All of it is otherwise, and its last byte wrong.
        String other = "plain 4 by 5;topic x;high 0 0 1;person y at 3 3 tired 9;asks y of x;knows y of x;lifts 9;tires 9;"
                + "holds all;crowd 100;.";
        Twins.refusedTape(s, other, 1, true, Tape.bytes(other), ShrugHills::plain);
        int[] lengths = {0, 1, 2, 19, 20, 1599, 1600};
        for (int length : lengths) {
            ShrugHills x = new ShrugHills();
            Tape.put(x, blanks(length));
            s.due(length + " blanks", x.plain(), NONE);
            s.due("fault", x.fault(0), 1);
            s.due("its place", x.fault(1), length);
        }
        plainsAnew();
        faults();
    }

    private static void plainsAnew() {
        s.says("Without one all is as at first, nothing is KEPT, SEEN or can be undone");
        ShrugHills x = Twins.busy();
        x.end(0);
        s.due("all that goes is there", x.has(5) > 0 && x.has(7) > 0 && x.has(8) > 0 && x.has(9) > 0, true);
        Tape.put(x, Twins.PLAIN);
        s.due("the same plain again", x.plain(), 9);
        ShrugHills fresh = hills(Twins.PLAIN);
        x.image();
        fresh.image();
        Twins.same(s, "anew", Twins.sight(x), Twins.sight(fresh));
        s.due("none can be undone", x.undo(), false);
        x = Twins.busy();
        x.end(0);
        Tape.put(x, "plain 3 by 3;");
        x.plain();
        int[] want = {3, 3, 0, 0, 0, 0, 450, 0, 0, 0};
        for (int what = 0; what < 10; what++) {
            s.due("has " + what, x.has(what), want[what]);
        }
        s.due("no person", x.person(0, 0), NONE);
        s.due("no row", x.list(0, 0), NONE);
        s.due("nothing kept", x.kept(0, 0), NONE);
        plainsInTurn();
        topicsNoMore();
        s.says("the seed stays");
        ShrugHills seeded = new ShrugHills();
        seeded.seed(4711);
        Tape.put(seeded, Twins.PLAIN);
        seeded.plain();
        ShrugHills later = hills(Twins.PLAIN);
        later.seed(4711);
        s.due("by the seed", seeded.chance(40), later.chance(40));
        Twins.same(s, "by the seed", Twins.sight(seeded), Twins.sight(later));
        ShrugHills first = hills(Twins.PLAIN);
        s.due("not that at first", first.chance(40) == seeded.has(9)
                && Arrays.equals(Twins.sight(first), Twins.sight(later)), false);
    }

    /** Plains and what is none by turns on one object: the last plain is as on a new object. */
    private static void plainsInTurn() {
        String other = "plain 4 by 5;topic a;topic b;topic c;person z at 3 3 tired 9;person y at 0 0 tired 8;person x at 1 1 tired 7;"
                + "high 0 0 1;high 2 1 99;knows z of b;knows z of c;asks z of a;asks y of c;asks x of b;lifts side/9;tires 9-tired;"
                + "holds height=1;crowd 60;";
        String[] texts = {PAIR + "lifts 2;tires 5;holds day=3;crowd 100;", other, PAIR, other + ".", "plain 7 by 7;"};
        int[][] turns = {{0, 0}, {0, 0, 0}, {1, 1, 1}, {0, 1, 0}, {0, 1, 2}, {1, 2, 2}, {3, 0}, {3, 3, 0}, {3, 1}, {3, 2}, {0, 3, 0},
            {0, 3, 1}, {0, 3, 2}, {1, 3, 3, 2}, {1, 4, 2}, {1, 4, 4, 0}, {0, 0, 4}, {0, 1, 4}, {3, 4}, {3, 3, 4}, {4, 1, 3, 0, 3, 2}};
        for (int[] turn : turns) {
            ShrugHills x = new ShrugHills();
            int statements = NONE;
            for (int k : turn) {
                Tape.put(x, texts[k]);
                statements = x.plain();
                s.due("a fault in turn " + Arrays.toString(turn), x.fault(0), k == 3 ? 1 : 0);
            }
            String last = texts[turn[turn.length - 1]];
            ShrugHills fresh = hills(last);
            s.due("statements", statements, last.length() - last.replace(";", "").length());
            Twins.same(s, "in turn " + Arrays.toString(turn), Twins.sight(x), Twins.sight(fresh));
            s.due("days", x.days(9), fresh.days(9));
            s.due("by the seed", x.chance(9), fresh.chance(9));
            s.due("behind days", Arrays.equals(image(x), image(fresh)), true);
        }
    }

    /** What was known or would be lifted by the topics of an earlier plain is not told of one with fewer. */
    private static void topicsNoMore() {
        ShrugHills x = hills(FULL);
        s.due("te", ask(x, "total lifts 4") * 10 + ask(x, "total knows 4"), 301);
        Tape.put(x, "plain 3 by 3;topic t;person p at 1 1 tired 0;");
        x.plain();
        for (int topic = 0; topic < 6; topic++) {
            s.due("lifts " + topic, ask(x, "total lifts " + topic), topic == 0 ? 6 : 0);
            s.due("knows " + topic, ask(x, "total knows " + topic), 0);
        }
    }

    private static void faults() {
        s.promise(5);
        s.says("Of the latest plain() or ask(): its FAULT (what 0; 0 without, and ahead of any), its place (1; NONE without)");
        ShrugHills x = new ShrugHills();
        fault(x, "ahead of any", 0, NONE);
        Tape.put(x, "plain 3 by 9");
        x.plain();
        fault(x, "of a plain", 2, 11);
        ask(x, "total");
        fault(x, "of a question that does nothing else", 2, 11);
        Tape.put(x, PAIR);
        x.plain();
        fault(x, "of a plain without one", 0, NONE);
        ask(x, "total 1 1");
        fault(x, "of a question", 1, 8);
        see(x, 1, 2, 3);
        on(x, 1, 2, 3);
        x.days(1);
        x.asks(9, 9);
        fault(x, "of no other call", 1, 8);
        Tape.put(x, "x");
        x.plain();
        fault(x, "of a plain, at 0", 1, 0);
        ask(x, "total 1");
        fault(x, "of a question without one", 0, NONE);
        s.says("NONE for another what");
        int[] others = {-1, -2, 2, 3, LEAST, GREATEST};
        for (int what : others) {
            s.due("without one, what " + what, x.fault(what), NONE);
        }
        Tape.put(x, "plain 3 by 9");
        x.plain();
        for (int what : others) {
            s.due("with one, what " + what, x.fault(what), NONE);
        }
    }

    private static void fault(ShrugHills x, String what, int kind, int place) {
        s.due("fault " + what, x.fault(0), kind);
        s.due("place " + what, x.fault(1), place);
    }

    // ---- promises 6 to 12

    private static void whatIsTold() {
        has();
        letter();
        height();
        person();
        list();
        would();
        kept();
    }

    private static void has() {
        s.promise(6);
        s.says("How many there are: 0 columns, 1 rows, 2 TOPICS, 3 PEOPLE, 4 rows of the LIST, 5 DAY, 6 all heights together, "
                + "7 what is told as KEPT, 8 rows SEEN, 9 ACTS that can be undone.");
        int[][] want = {{0, 0, 0, 0, 0, 0, 0, 0, 0, 0}, {3, 4, 0, 0, 0, 0, 600, 0, 0, 0}, {7, 7, 5, 7, 12, 0, 2450, 0, 0, 0}};
        ShrugHills[] ones = {new ShrugHills(), hills("plain 3 by 4;"), hills(FULL)};
        for (int k = 0; k < 3; k++) {
            for (int what = 0; what < 10; what++) {
                s.due("has " + what, ones[k].has(what), want[k][what]);
            }
        }
        int[] highest = {0, 99};
        for (int high : highest) {
            StringBuilder text = new StringBuilder("plain 7 by 7;");
            for (int cell = 0; cell < 49; cell++) {
                text.append("high ").append(cell % 7).append(' ').append(cell / 7).append(' ').append(high).append(';');
            }
            s.due("all heights " + high, hills(text.toString()).has(6), 49 * high);
        }
        s.due("the last day", atDay(hills(PAIR), 999).has(5), 999);
        ShrugHills x = hills(ONE);
        for (int k = 1; k <= 42; k++) {
            x.days(1);
            s.due("day", x.has(5), k);
            s.due("kept", x.has(7), Math.min(k, 40));
            s.due("undone", x.has(9), Math.min(k, 20));
            s.due("heights", x.has(6), 450);
        }
        x.undo();
        s.due("undone", x.has(9), 19);
        for (int rows = 1; rows <= 16; rows++) {
            s.due("see", see(x, new int[4 * rows]), rows);
            s.due("seen", x.has(8), rows);
        }
        s.says("NONE for others.");
        int[] others = {-1, -2, 10, 11, LEAST, GREATEST};
        for (ShrugHills one : ones) {
            for (int what : others) {
                s.due("has " + what, one.has(what), NONE);
            }
        }
    }

    private static void letter() {
        s.promise(7);
        s.says("Letter k (0 .. 5) of the NAME of a TOPIC (kind 0), a PERSON (1): 1 .. 26");
        ShrugHills x = hills("plain 7 by 7;topic abcdef;topic uvwxyz;topic z;topic y;topic zzzzzz;person ghijkl at 0 0 tired 0;"
                + "person mnopqr at 1 0 tired 0;person st at 2 0 tired 0;person aa at 3 0 tired 0;person ab at 4 0 tired 0;"
                + "person ac at 5 0 tired 0;person aaaaaa at 6 0 tired 0;");
        for (int k = 0; k < 6; k++) {
            s.due("abcdef " + k, x.letter(0, 0, k), 1 + k);
            s.due("uvwxyz " + k, x.letter(0, 1, k), 21 + k);
            s.due("zzzzzz " + k, x.letter(0, 4, k), 26);
            s.due("ghijkl " + k, x.letter(1, 0, k), 7 + k);
            s.due("mnopqr " + k, x.letter(1, 1, k), 13 + k);
            s.due("aaaaaa " + k, x.letter(1, 6, k), 1);
        }
        s.says("0 behind it");
        for (int k = 0; k < 6; k++) {
            s.due("z " + k, x.letter(0, 2, k), k == 0 ? 26 : 0);
            s.due("ac " + k, x.letter(1, 5, k), k == 0 ? 1 : k == 1 ? 3 : 0);
        }
        s.says("NONE when there is none such");
        int[][] none = {{0, 0, -1}, {0, 0, 6}, {1, 0, -1}, {1, 0, 6}, {0, 0, LEAST}, {0, 0, GREATEST}, {0, 0, 32}, {0, -1, 0},
            {0, 5, 0}, {0, GREATEST, 0}, {0, LEAST, 0}, {1, -1, 0}, {1, 7, 0}, {1, GREATEST, 0}, {1, LEAST, 0}, {-1, 0, 0},
            {2, 0, 0}, {LEAST, 0, 0}, {GREATEST, 0, 0}};
        for (int[] a : none) {
            s.due("letter " + Arrays.toString(a), x.letter(a[0], a[1], a[2]), NONE);
        }
        ShrugHills few = hills("plain 3 by 3;topic t;");
        s.due("topic 0", few.letter(0, 0, 0), 20);
        s.due("topic 1", few.letter(0, 1, 0), NONE);
        s.due("person 0", few.letter(1, 0, 0), NONE);
    }

    private static void height() {
        s.promise(8);
        s.says("The height of a CELL");
        for (int columns = 3; columns <= 7; columns++) {
            for (int rows = 3; rows <= 7; rows++) {
                ShrugHills x = hills("plain " + columns + " by " + rows + ";high " + (columns - 1) + " 0 11;high 0 " + (rows - 1)
                        + " 22;high " + (columns - 1) + " " + (rows - 1) + " 99;high 0 0 0;");
                s.due("0 0", x.height(0, 0), 0);
                s.due("the first row's last", x.height(columns - 1, 0), 11);
                s.due("the last row's first", x.height(0, rows - 1), 22);
                s.due("the last", x.height(columns - 1, rows - 1), 99);
                s.due("behind the last column", x.height(columns, 0), NONE);
                s.due("behind the last row", x.height(0, rows), NONE);
            }
        }
        s.says("NONE when there is none such");
        ShrugHills x = hills("plain 3 by 4;");
        int[][] none = {{-1, 0}, {0, -1}, {3, 0}, {0, 4}, {3, 3}, {LEAST, 0}, {0, LEAST}, {GREATEST, 0}, {0, GREATEST},
            {GREATEST, GREATEST}, {LEAST, LEAST}, {-1, 1}, {3, -1}};
        for (int[] a : none) {
            s.due("height " + Arrays.toString(a), x.height(a[0], a[1]), NONE);
        }
    }

    private static void person() {
        s.promise(9);
        s.says("Of a PERSON: 0 column, 1 row, 2 how tired, 3 TOPICS that he knows, as bits.");
        ShrugHills x = hills(FULL + "knows a of ta;knows g of ta;knows g of tb;knows g of tc;knows g of td;knows g of te;");
        int[][] want = {{0, 0, 0, 1}, {1, 1, 1, 0}, {2, 2, 2, 0}, {3, 3, 3, 0}, {4, 4, 4, 0}, {5, 5, 5, 16}, {6, 6, 9, 31}};
        for (int k = 0; k < 28; k++) {
            s.due("person " + k / 4 + " " + k % 4, x.person(k / 4, k % 4), want[k / 4][k % 4]);
        }
        s.says("NONE when there is none such, or for others.");
        int[] none = {-1, 7, 8, LEAST, GREATEST};
        int[] others = {-1, 4, 5, LEAST, GREATEST};
        for (int k = 0; k < 5; k++) {
            for (int what = 0; what < 4; what++) {
                s.due("person " + none[k], x.person(none[k], what), NONE);
            }
            s.due("what " + others[k], x.person(0, others[k]), NONE);
            s.due("what " + others[k], x.person(6, others[k]), NONE);
        }
        s.due("the second of one", hills(ONE).person(1, 0), NONE);
    }

    private static void list() {
        s.promise(10);
        s.says("Of the k-th row of the LIST: 0 PERSON, 1 TOPIC.");
        ShrugHills x = hills(FULL.substring(0, FULL.indexOf("asks")) + "asks a of ta;".repeat(5) + "asks b of tc;"
                + "asks g of ta;".repeat(5) + "asks a of te;");
        for (int k = 0; k < 12; k++) {
            s.due("person of " + k, x.list(k, 0), k < 5 ? 0 : k == 5 ? 1 : k < 11 ? 6 : 0);
            s.due("topic of " + k, x.list(k, 1), k == 5 ? 2 : k == 11 ? 4 : 0);
        }
        s.says("NONE when there is none such, or for others.");
        int[] none = {-1, 12, 13, LEAST, GREATEST};
        int[] others = {-1, 2, 3, LEAST, GREATEST};
        for (int k = 0; k < 5; k++) {
            s.due("row " + none[k], x.list(none[k], 0), NONE);
            s.due("row " + none[k], x.list(none[k], 1), NONE);
            s.due("what " + others[k], x.list(0, others[k]), NONE);
            s.due("what " + others[k], x.list(11, others[k]), NONE);
        }
        s.due("the second of one", hills(ONE).list(1, 0), NONE);
        s.due("without a list", hills("plain 3 by 3;").list(0, 0), NONE);
    }

    private static void would() {
        s.promise(11);
        s.says("What a PERSON would do, if he were asked a TOPIC now: 0 answer, 1 HOLD it, 2 SHRUG.");
        ShrugHills x = hills(FULL + "holds tired>3;");
        s.due("shrug", x.would(0, 0), 2);
        s.due("shrug", x.would(3, 4), 2);
        s.due("hold", x.would(4, 4), 1);
        s.due("hold", x.would(6, 4), 1);
        s.due("answer, though tired", x.would(5, 4), 0);
        s.due("hold", x.would(5, 3), 1);
        s.due("nothing is done", x.has(5) + x.has(7) + x.has(9), 0);
        s.says("NONE when there are none such.");
        int[][] none = {{-1, 0}, {7, 0}, {0, -1}, {0, 5}, {LEAST, 0}, {GREATEST, 0}, {0, LEAST}, {0, GREATEST}, {7, 5}};
        for (int[] a : none) {
            s.due("would " + Arrays.toString(a), x.would(a[0], a[1]), NONE);
        }
        s.due("nothing is refused", x.status(2), 0);
    }

    private static void kept() {
        s.promise(12);
        s.says("Of what is told as KEPT, the k-th from the oldest on: 0 DAY, 1 PERSON, 2 TOPIC, 3 how much.");
        ShrugHills x = hills(FULL);
        x.asks(0, 4);
        x.days(2);
        x.asks(3, 2);
        x.asks(5, 4);
        int[][] want = {{0, 0, 4, 3}, {0, 6, 4, 3}, {1, 6, 4, 3}, {2, 3, 2, 6}};
        for (int k = 0; k < 16; k++) {
            s.due("kept " + k / 4 + " " + k % 4, x.kept(k / 4, k % 4), want[k / 4][k % 4]);
        }
        ShrugHills many = hills(ONE);
        for (int count = 1; count <= 42; count++) {
            many.days(1);
            s.due("the oldest of " + count, many.kept(0, 0), Math.max(0, count - 40));
            s.due("the latest of " + count, many.kept(Math.min(count, 40) - 1, 0), count - 1);
            s.due("no more of " + count, many.kept(Math.min(count, 40), 0), NONE);
        }
        int[] counts = {39, 40, 41, 42, 79, 80, 81, 100};
        for (int count : counts) {
            keptOf(count);
        }
        s.says("NONE when there is none such, or for others.");
        int[] none = {-1, 4, 5, LEAST, GREATEST};
        int[] others = {-1, 4, 5, LEAST, GREATEST};
        for (int k = 0; k < 5; k++) {
            s.due("kept " + none[k], x.kept(none[k], 0), NONE);
            s.due("kept " + none[k], x.kept(none[k], 3), NONE);
            s.due("what " + others[k], x.kept(0, others[k]), NONE);
            s.due("what " + others[k], x.kept(3, others[k]), NONE);
        }
        s.due("of none", hills(ONE).kept(0, 0), NONE);
    }

    /** All that is told of so many shrugs, of which each is unlike those next to it. */
    private static void keptOf(int count) {
        ShrugHills x = hills(FULL.substring(0, FULL.indexOf("asks")) + "asks a of tb;asks b of tc;asks g of ta;asks c of td;asks e of te;"
                + "lifts (day*5+topic)/3-(day*5+topic)/30*10;high 6 0 99;high 5 0 99;high 4 0 99;high 3 0 99;");
        int[][] list = {{0, 1}, {1, 2}, {6, 0}, {2, 3}, {4, 4}};
        s.due("shrugs", x.days(count), count);
        for (int k = 0; k < 41; k++) {
            int day = k + Math.max(0, count - 40);
            boolean told = k < 40 && day < count;
            int[] asked = list[day % 5];
            // Those who have one beside them alone are a, g.
            int each = Math.min(9, (day * 5 + asked[1]) / 3 - (day * 5 + asked[1]) / 30 * 10);
            int[] want = {day, asked[0], asked[1], asked[0] % 6 == 0 ? each : 2 * each};
            for (int what = 0; what < 4; what++) {
                // In longer runs cells come up to 99, so that less is lifted.
                if (what < 3 || count <= 42) {
                    s.due("kept " + k + " " + what + " of " + count, x.kept(k, what), told ? want[what] : NONE);
                }
            }
        }
    }

    // ---- promises 13 to 15

    private static void ahead() {
        later();
        tired();
        rises();
    }

    /** For each day from which some days ahead go to 999 or beyond it: whether n days can be. */
    private interface Ahead {
        int tell(ShrugHills x, int n);
    }

    /** From least to most days ahead are fine, others are not, nor any beyond day 999. */
    private static void bounds(String what, int least, int most, Ahead call) {
        int[] days = {0, 999 - most - 1, 999 - most, 999 - most + 1, 998, 999};
        for (int day : days) {
            ShrugHills x = atDay(hills(PAIR), day);
            for (int n = least; n <= most; n++) {
                s.due(what + " " + n + " on day " + day, call.tell(x, n) != NONE, day + n <= 999);
            }
            int[] none = {least - 1, most + 1, -1, -60, LEAST, GREATEST, GREATEST - 998};
            for (int n : none) {
                s.due(what + " " + n + " on day " + day, call.tell(x, n), NONE);
            }
            s.due("all stays", x.has(5) * 1000 + x.has(9), day * 1000);
        }
    }

    private static void later() {
        s.promise(13);
        s.says("The height of a CELL behind n DAYS AHEAD (0 .. 60)");
        ShrugHills x = hills(ONE + "lifts 1;high 2 2 99;high 0 2 99;");
        for (int n = 0; n <= 49; n++) {
            s.due("0 1 behind " + n, x.later(0, 1, n), 50 + n);
        }
        s.due("99 behind 60", x.later(0, 1, 60), 99);
        s.due("his own", x.later(1, 1, 60), 50);
        ShrugHills last = hills(ONE + "lifts day/59;");
        s.due("59", last.later(0, 1, 59), 50);
        s.due("60", last.later(0, 1, 60), 51);
        s.due("all stays", last.has(5) + last.has(7) + last.has(9), 0);
        s.says("NONE when there is none such, or n can't be");
        int[][] none = {{-1, 0}, {0, -1}, {3, 0}, {0, 3}, {LEAST, 0}, {0, LEAST}, {GREATEST, 0}, {0, GREATEST}};
        for (int[] a : none) {
            s.due("later " + Arrays.toString(a), x.later(a[0], a[1], 0), NONE);
            s.due("later " + Arrays.toString(a), x.later(a[0], a[1], 1), NONE);
        }
        bounds("later", 0, 60, (y, n) -> y.later(0, 0, n));
        s.due("without a plain", new ShrugHills().later(0, 0, 0), NONE);
    }

    private static void tired() {
        s.promise(14);
        s.says("How tired a PERSON is behind n DAYS AHEAD (0 .. 60)");
        ShrugHills x = hills(ONE);
        for (int n = 0; n <= 60; n++) {
            s.due("behind " + n, x.tired(0, n), Math.min(n, 9));
        }
        ShrugHills last = hills(ONE + "tires day/59;");
        s.due("59", last.tired(0, 59), 0);
        s.due("60", last.tired(0, 60), 1);
        s.due("all stays", last.has(5) + last.has(7) + last.has(9), 0);
        s.due("the seventh", hills(FULL).tired(6, 0), 9);
        s.says("NONE when there is none such, or n can't be");
        int[] none = {-1, 1, 7, LEAST, GREATEST};
        for (int p : none) {
            s.due("person " + p, x.tired(p, 0), NONE);
        }
        s.due("person 7", hills(FULL).tired(7, 0), NONE);
        bounds("tired", 0, 60, (y, n) -> y.tired(0, n));
        s.due("without a plain", new ShrugHills().tired(0, 0), NONE);
    }

    private static void rises() {
        s.promise(15);
        s.says("Behind how many DAYS AHEAD (0: now; 60 at most) a CELL is as high as told first, or higher");
        ShrugHills x = hills(ONE);
        s.due("as high now", x.rises(0, 1, 50), 0);
        s.due("higher now", x.rises(0, 1, 49), 0);
        s.due("0", x.rises(0, 1, 0), 0);
        s.due("below 0", x.rises(0, 1, LEAST), 0);
        s.due("one more", x.rises(0, 1, 51), 1);
        s.due("higher", x.rises(0, 1, 52), 1);
        s.due("as high", x.rises(0, 1, 53), 1);
        s.due("higher than that", x.rises(0, 1, 54), 2);
        s.due("first", x.rises(0, 1, 99), 17);
        ShrugHills back = hills(ONE + "person q at 0 2 tired 0;high 1 1 90;asks q of t;lifts 6-day;");
        // 0 1 is at 56 behind a day; then q takes from his own, the highest, alone.
        s.due("first", back.rises(0, 1, 56), 1);
        s.due("60", hills(ONE + "lifts day/59;").rises(0, 1, 51), 60);
        s.says("NONE when it is not, or there is none such");
        s.due("61", hills(ONE + "lifts day/60;").rises(0, 1, 51), NONE);
        s.due("100", x.rises(0, 1, 100), NONE);
        s.due("greatest", x.rises(0, 1, GREATEST), NONE);
        s.due("taken from", x.rises(0, 0, 51), NONE);
        int[][] none = {{-1, 0}, {0, -1}, {3, 0}, {0, 3}, {LEAST, 0}, {0, LEAST}, {GREATEST, 0}, {0, GREATEST}};
        for (int[] a : none) {
            s.due("rises " + Arrays.toString(a), x.rises(a[0], a[1], 0), NONE);
        }
        s.due("without a plain", new ShrugHills().rises(0, 0, 0), NONE);
        // What is lifted on day 998 is so on day 999; nothing is asked on day 999.
        ShrugHills late = atDay(hills(ONE + "lifts day/998;"), 939);
        s.due("day 999", late.rises(0, 1, 51), 60);
        s.due("day 999", atDay(late, 998).rises(0, 1, 51), 1);
        s.due("beyond 999", atDay(late, 999).rises(0, 1, 51), NONE);
        s.due("as high on day 999", late.rises(0, 1, 50), 0);
        s.due("beyond 999", atDay(hills(ONE + "lifts day/999;"), 960).rises(0, 1, 51), NONE);
    }

    // ---- promises 16 to 20

    private static void plansWaysWater() {
        plan();
        way();
        pond();
        keeps();
        rest();
    }

    private static void plan() {
        s.promise(16);
        s.says("A PLAN for the CELL of number up (8 times its row and its column) to come up to a height (0 .. 99), that of "
                + "number stay to stay: how many askings (k NONE), the k-th: 8 times its PERSON and its TOPIC.");
        ShrugHills x = hills(ONE);
        int[] highest = {0, 49, 50, 51, 53, 54, 56, 57, 59};
        int[] askings = {0, 0, 0, 1, 1, 2, 2, 3, 3};
        for (int i = 0; i < highest.length; i++) {
            s.due("up to " + highest[i], x.plan(8, highest[i], 9, NONE), askings[i]);
            for (int k = 0; k <= 4; k++) {
                s.due("asking " + k + " of " + askings[i], x.plan(8, highest[i], 9, k), k < askings[i] ? 0 : NONE);
            }
        }
        s.due("up to 99", hills(ONE + "high 0 1 96;").plan(8, 99, 9, NONE), 1);
        s.due("at 99", hills(ONE + "high 0 1 99;").plan(8, 99, 9, NONE), 0);
        s.due("at 0", hills(ONE + "high 0 1 0;").plan(8, 0, 9, NONE), 0);
        ShrugHills full = hills(FULL);
        s.due("g, ta: 8 times 6 and 0", full.plan(53, 51, 54, 0), 48);
        s.due("it is so in the last cell", full.plan(54, 50, 54, NONE), 0);
        ShrugHills last = hills(FULL + "holds topic<4;");
        s.due("g, te: 8 times 6 and 4", last.plan(53, 51, 54, 0), 52);
        s.due("all stays", full.has(5) + full.has(7) + full.has(9), 0);
        s.says("NONE without one, or when there are none such.");
        s.due("up to 60 by three", x.plan(8, 60, 9, NONE), NONE);
        s.due("up to 60 by three, the first", x.plan(8, 60, 9, 0), NONE);
        s.due("both can't be", x.plan(8, 51, 8, NONE), NONE);
        s.due("his own cell", x.plan(9, 51, 0, NONE), NONE);
        s.due("without people", hills("plain 3 by 3;topic t;").plan(0, 51, 1, NONE), NONE);
        s.due("without topics", hills("plain 3 by 3;person p at 1 1 tired 0;").plan(8, 51, 9, NONE), NONE);
        s.due("without people it may be so", hills("plain 3 by 3;").plan(0, 50, 1, NONE), 0);
        int[] heights = {-1, 100, LEAST, GREATEST};
        for (int height : heights) {
            s.due("height " + height, x.plan(8, height, 9, NONE), NONE);
            s.due("height " + height, x.plan(8, height, 9, 0), NONE);
        }
        s.due("100 is none, though all are at 99", hills(ONE + "high 0 1 99;").plan(8, 100, 9, NONE), NONE);
        noCells("plan up", number -> x.plan(number, 0, 0, NONE));
        noCells("plan stay", number -> x.plan(0, 0, number, NONE));
        int[] ks = {-2, -3, 1, 2, 3, LEAST, GREATEST};
        for (int k : ks) {
            s.due("k " + k, x.plan(8, 53, 9, k), NONE);
        }
    }

    private interface ByNumber {
        int tell(int number);
    }

    /** Numbers of no cell of a plain of 3 by 3. */
    private static void noCells(String what, ByNumber call) {
        int[] none = {-1, -8, -9, 3, 4, 7, 11, 15, 19, 23, 24, 25, 26, 32, 64, LEAST, GREATEST, LEAST + 8, 1 << 30};
        for (int number : none) {
            s.due(what + " " + number, call.tell(number), NONE);
        }
        int[] some = {0, 1, 2, 8, 9, 10, 16, 17, 18};
        for (int number : some) {
            s.due(what + " " + number + " is one", call.tell(number) != NONE, true);
        }
    }

    private static void way() {
        s.promise(17);
        s.says("The WAY between two CELLS (numbers as in plan()): its cost.");
        ShrugHills x = hills("plain 3 by 3;high 2 2 99;high 2 1 0;high 1 2 50;");
        s.due("itself", x.way(18, 18), 0);
        s.due("itself", x.way(0, 0), 0);
        s.due("a step", x.way(0, 1), 1);
        s.due("up to 99", x.way(17, 18), 50);
        s.due("down from 99", x.way(18, 17), 50);
        s.due("not over 0", x.way(2, 18), 53);
        s.due("from corner to corner", hills("plain 7 by 7;").way(0, 54), 12);
        s.due("from corner to corner", hills("plain 7 by 3;").way(6, 16), 8);
        StringBuilder chess = new StringBuilder("plain 7 by 7;");
        for (int cell = 0; cell < 49; cell++) {
            chess.append("high ").append(cell % 7).append(' ').append(cell / 7).append(cell % 2 == 0 ? " 0;" : " 99;");
        }
        s.due("the dearest", hills(chess.toString()).way(0, 54), 1200);
        s.says("NONE when there are none such.");
        noCells("way from", number -> x.way(number, 0));
        noCells("way to", number -> x.way(0, number));
        noCells("way to itself", number -> x.way(number, number));
    }

    private static void pond() {
        s.promise(18);
        s.says("The POND of a CELL: its number, as in plan()");
        ShrugHills x = hills("plain 7 by 7;high 6 6 0;high 5 6 1;high 0 0 49;high 4 6 2;");
        s.due("none is lower", x.pond(6, 6), 54);
        s.due("along", x.pond(3, 6), 54);
        s.due("none is lower", x.pond(0, 0), 0);
        s.due("none is lower, all are like", x.pond(3, 3), 27);
        s.due("to 0 0", x.pond(1, 0), 0);
        s.due("to 0 0", x.pond(0, 1), 0);
        s.due("no step aslant", x.pond(1, 1), 9);
        s.says("NONE when there is none such");
        int[][] none = {{-1, 0}, {0, -1}, {7, 0}, {0, 7}, {LEAST, 0}, {0, LEAST}, {GREATEST, 0}, {0, GREATEST}};
        for (int[] a : none) {
            s.due("pond " + Arrays.toString(a), x.pond(a[0], a[1]), NONE);
        }
        s.due("without a plain", new ShrugHills().pond(0, 0), NONE);
    }

    private static void keeps() {
        s.promise(19);
        s.says("By whom a WAY (numbers as in plan()) is KEPT, n DAYS AHEAD (1 .. 20), as bits");
        ShrugHills x = hills(ONE);
        s.due("p", x.keeps(8, 9, 1), 1);
        s.due("none", x.keeps(9, 9, 20), 0);
        s.due("g alone", hills(FULL).keeps(53, 54, 20), 64);
        // On day 19 it is asked for the 20th time.
        ShrugHills late = hills(ONE + "lifts day/19;");
        s.due("19", late.keeps(8, 9, 19), 0);
        s.due("20", late.keeps(8, 9, 20), 1);
        s.due("all stays", late.has(5) + late.has(7) + late.has(9), 0);
        s.says("NONE when all are not enough, there are none such, or n can't be");
        for (int from = 0; from < 49; from++) {
            int number = from / 7 * 8 + from % 7;
            s.due("all are always enough", hills(FULL).keeps(0, number, 3) != NONE, true);
        }
        noCells("keeps from", number -> x.keeps(number, 0, 1));
        noCells("keeps to", number -> x.keeps(0, number, 1));
        bounds("keeps", 1, 20, (y, n) -> y.keeps(0, 9, n));
        s.due("without a plain", new ShrugHills().keeps(0, 0, 1), NONE);
    }

    private static void rest() {
        s.promise(20);
        s.says("At REST, n DAYS AHEAD (1 .. 20), as bits");
        // p's shrug takes 2 2 down to 60, so that q, who comes next, takes from p's own cell; else from 2 2 alone.
        ShrugHills x = hills("plain 3 by 3;topic t;person p at 1 1 tired 0;person q at 1 0 tired 0;high 1 1 60;"
                + "high 2 2 65;asks p of t;asks q of t;lifts 3;");
        s.due("1", x.rest(1), 0);
        s.due("2", x.rest(2), 1);
        s.due("without people", hills("plain 3 by 3;topic t;").rest(20), 0);
        s.due("without topics", hills("plain 3 by 3;person p at 1 1 tired 0;").rest(20), 0);
        // The same, but p and q are asked on days 18 and 19 alone.
        ShrugHills late = hills("plain 3 by 3;topic t;person p at 1 1 tired 0;person q at 1 0 tired 0;high 1 1 60;"
                + "high 2 2 65;asks p of t;asks q of t;lifts 3*min(1,day/18);");
        s.due("19", late.rest(19), 0);
        s.due("20", late.rest(20), 1);
        s.due("all stays", late.has(5) + late.has(7) + late.has(9), 0);
        s.due("two", hills("plain 3 by 3;topic t;person p at 2 1 tired 0;person q at 2 2 tired 0;person r at 2 0 tired 0;"
                + "person v at 0 2 tired 0;high 1 1 47;asks p of t;asks v of t;asks q of t;").rest(3), 3);
        s.says("NONE when no set is, n can't be, or without a plain");
        bounds("rest", 1, 20, ShrugHills::rest);
        s.due("without a plain", new ShrugHills().rest(1), NONE);
        // That no set is can't be: where all keep silent, one who shrugs alone does not move his own cell.
        int[][] ways = {{0, 3}, {1, 9}, {2, 20}};
        for (int[] way : ways) {
            ShrugHills y = hills(FULL.substring(0, FULL.indexOf("asks")) + "asks a of ta;asks b of ta;asks c of ta;"
                    + "asks d of ta;asks e of ta;asks f of ta;asks g of ta;lifts 9-tired+" + way[0] + ";holds height=51;");
            s.due("some set is", y.rest(way[1]) != NONE, true);
        }
    }

    // ---- promises 21 to 23

    private static void seen() {
        see();
        who();
        tells();
    }

    private static void see() {
        s.promise(21);
        s.says("The tape (it goes) tells what is SEEN, 1 to 16 rows of four bytes: how many rows");
        for (int rows = 1; rows <= 16; rows++) {
            ShrugHills x = hills(PAIR);
            int[] bytes = new int[4 * rows];
            Arrays.fill(bytes, 4 * rows - 4, 4 * rows, 2);
            s.due(rows + " rows", see(x, bytes), rows);
            s.due("rows seen", x.has(8), rows);
            s.due("the tape went", x.end(1), false);
            s.due("nothing refused", x.status(1), 0);
        }
        int[][] fine = {{0, 0, 0, 0}, {30, 0, 0, 0}, {0, 2, 0, 0}, {0, 0, 2, 0}, {0, 0, 0, 99}, {30, 2, 2, 99}};
        ShrugHills y = hills(PAIR);
        for (int[] row : fine) {
            s.due("see " + Arrays.toString(row), see(y, row), 1);
        }
        see(y, 0, 1, 0, 53, 0, 1, 1, 49);
        s.due("q, asked u", y.who(1), 2);
        see(y, 0, 0, 1, 53);
        s.due("what was seen ahead of that is gone", y.who(1) * 10 + y.has(8), 11);
        ShrugHills wide = hills("plain 7 by 3;");
        s.due("6 2", see(wide, 0, 6, 2, 0), 1);
        s.due("2 6", see(wide, 0, 2, 6, 0), NONE);
        s.due("a day on which it can't be is a row, too", see(atDay(hills(PAIR), 999), 30, 0, 0, 0), 1);
        s.says("NONE, refused (1), all staying, when it is none such");
        int[][] none = {{}, {0}, {0, 0}, {0, 0, 0}, {0, 0, 0, 0, 0}, {0, 0, 0, 0, 0, 0}, {0, 0, 0, 0, 0, 0, 0}, new int[63],
            new int[65], new int[66], new int[67], new int[68], new int[1600], {31, 0, 0, 0}, {255, 0, 0, 0}, {0, 3, 0, 0},
            {0, 255, 0, 0}, {0, 0, 3, 0}, {0, 0, 255, 0}, {0, 0, 0, 100}, {0, 0, 0, 255}, {0, 0, 0, 0, 31, 0, 0, 0},
            {0, 0, 0, 0, 0, 3, 0, 0}, {0, 0, 0, 0, 0, 0, 3, 0}, {0, 0, 0, 0, 0, 0, 0, 100}};
        for (int[] bytes : none) {
            String what = "see() of " + bytes.length + " bytes " + Arrays.toString(Arrays.copyOf(bytes, Math.min(8, bytes.length)));
            ShrugHills x = hills(PAIR);
            see(x, 0, 0, 1, 53);
            s.due(what, see(x, bytes), NONE);
            s.due("refused", x.status(1), 1);
            s.due("the tape went", x.end(1), false);
            s.due("what was seen stays", x.who(0) * 10 + x.has(8), 11);
            Twins.refusedTape(s, what, 1, true, bytes, ShrugHills::see);
        }
        Twins.refusedTape(s, "see() without a plain", 1, false, new int[4], ShrugHills::see);
        s.due("without a plain", see(new ShrugHills(), 0, 0, 0, 0), NONE);
        int[] last = new int[64];
        last[60] = 31;
        s.due("the 16th row", see(hills(PAIR), last), NONE);
    }

    private static void who() {
        s.promise(22);
        s.says("PEOPLE by what is SEEN (all, if nothing is), asked a TOPIC, as bits");
        ShrugHills full = hills(FULL);
        for (int topic = 0; topic < 5; topic++) {
            s.due("all seven", full.who(topic), 127);
        }
        s.due("nobody", hills("plain 3 by 3;topic t;").who(0), 0);
        see(full, 0, 5, 6, 53);
        s.due("g", full.who(0), 64);
        see(full, 0, 6, 6, 50);
        s.due("none takes from the last cell", full.who(4), 127);
        see(full, 0, 1, 0, 53, 0, 5, 6, 53);
        s.due("none lifts both", full.who(0), 0);
        ShrugHills late = hills(ONE + "lifts day/29;");
        see(late, 30, 0, 1, 51);
        s.due("30 days ahead", late.who(0), 1);
        see(late, 30, 0, 1, 50);
        s.due("30 days ahead", late.who(0), 0);
        see(late, 29, 0, 1, 50);
        s.due("29 days ahead", late.who(0), 1);
        s.due("all stays", late.has(5) + late.has(7) + late.has(9), 0);
        s.says("DAYS beyond 999 are by none");
        for (int n = 0; n <= 30; n++) {
            ShrugHills x = hills("plain 3 by 3;topic t;person p at 1 1 tired 0;lifts 0;");
            see(x, n, 0, 0, 50);
            atDay(x, 999 - n);
            s.due(n + " ahead of day 999", x.who(0), 1);
            if (n > 0) {
                atDay(x, 1000 - n);
                s.due(n + " ahead of day 1000", x.who(0), 0);
            }
        }
        ShrugHills end = atDay(hills("plain 3 by 3;topic t;person p at 1 1 tired 0;lifts 0;"), 999);
        s.due("nothing is seen", end.who(0), 1);
        see(end, 0, 0, 0, 50, 1, 0, 0, 50);
        s.due("one row of two", end.who(0), 0);
        s.says("NONE when there is none such");
        int[] none = {-1, 5, 6, LEAST, GREATEST};
        for (int topic : none) {
            s.due("topic " + topic, full.who(topic), NONE);
        }
        s.due("topic 1 of 1", end.who(1), NONE);
        s.due("without topics", hills("plain 3 by 3;person p at 1 1 tired 0;").who(0), NONE);
        s.due("without a plain", new ShrugHills().who(0), NONE);
    }

    private static void tells() {
        s.promise(23);
        s.says("TELLING for a TOPIC: the DAY AHEAD (what 0), the CELL (1, its number as in plan()), how many PEOPLE are left "
                + "at the most (2).");
        // Asked t, p (in the last row) takes from the other rows first, q from rows 1 and 2.
        ShrugHills x = hills("plain 4 by 3;topic t;person p at 0 2 tired 0;person q at 3 0 tired 0;lifts 1;high 2 1 60;");
        int[] want = {0, 2, 1};
        for (int what = 0; what < 3; what++) {
            s.due("q lifts 2 0, what " + what, x.tells(0, what), want[what]);
        }
        see(x, 0, 1, 2, 51);
        int[] one = {0, 0, 1};
        for (int what = 0; what < 3; what++) {
            s.due("p alone, what " + what, x.tells(0, what), one[what]);
        }
        ShrugHills last = hills("plain 4 by 3;topic t;topic u;person p at 0 2 tired 0;person q at 0 0 tired 0;asks p of u;"
                + "lifts topic*(1-tired);holds topic=1 and day<29;high 0 0 0;high 3 2 99;");
        // Both only get tired; if it was p, he lifts nothing on day 29, else 1 2, taken from 3 2.
        int[] late = {30, 17, 1};
        for (int what = 0; what < 3; what++) {
            s.due("30 days ahead, what " + what, last.tells(0, what), late[what]);
        }
        s.due("all stays", last.has(5) + last.has(7) + last.has(9), 0);
        // Of those who hold it nothing tells: all are left, by the first cell now.
        for (int people = 1; people <= 7; people++) {
            StringBuilder text = new StringBuilder("plain 7 by 7;topic t;holds all;");
            for (int p = 0; p < people; p++) {
                text.append("person ").append((char) ('a' + p)).append(" at ").append(p).append(" 3 tired 0;asks a of t;");
            }
            ShrugHills y = hills(text.toString());
            s.due("all of " + people, y.tells(0, 2), people);
            s.due("the first cell now", y.tells(0, 0) * 100 + y.tells(0, 1), 0);
        }
        s.says("NONE without any, when there is none such, or for others.");
        see(x, 0, 0, 0, 99);
        for (int what = 0; what < 3; what++) {
            s.due("without any, what " + what, x.tells(0, what), NONE);
            s.due("without people, what " + what, hills("plain 3 by 3;topic t;").tells(0, what), NONE);
            s.due("beyond day 999, what " + what, beyond().tells(0, what), NONE);
            int[] none = {-1, 1, 2, 5, LEAST, GREATEST};
            for (int topic : none) {
                s.due("topic " + topic, hills(ONE).tells(topic, what), NONE);
            }
            s.due("topic 5", hills(FULL).tells(5, what), NONE);
            s.due("topic 4", hills(FULL).tells(4, what) != NONE, true);
        }
        int[] others = {-1, 3, 4, LEAST, GREATEST};
        for (int what : others) {
            s.due("what " + what, hills(ONE).tells(0, what), NONE);
        }
        s.due("day 999 from day 969", atDay(tellingOn(998), 969).tells(0, 0), 30);
        s.due("day 999 from day 970", atDay(tellingOn(998), 970).tells(0, 0), 29);
        s.due("day 1000 from day 970", atDay(tellingOn(999), 970).tells(0, 2), 2);
        s.due("day 1000 from day 999", atDay(tellingOn(999), 999).tells(0, 2), 2);
    }

    private static ShrugHills beyond() {
        ShrugHills x = atDay(hills(ONE), 999);
        see(x, 1, 0, 0, 50);
        return x;
    }

    /** What is asked on that day tells, nothing ahead of it. */
    private static ShrugHills tellingOn(int day) {
        return hills("plain 4 by 3;topic t;topic u;person p at 0 2 tired 0;person q at 0 0 tired 0;asks p of u;"
                + "lifts topic*(1-tired);holds topic=1 and [day<" + day + " or day>" + day + "];high 0 0 0;");
    }

    // ---- promises 24 to 31

    private static void acts() {
        asks();
        teach();
        go();
        ease();
        days();
        chance();
        undo();
        seed();
    }

    /** The call is refused (2), with a plain and without one. */
    private static void refusedAct(String what, Consumer<ShrugHills> call) {
        Twins.refused(s, what, 2, call);
        Twins.refusedIdle(s, what, 2, call);
    }

    private static void asks() {
        s.promise(24);
        s.says("A PERSON is asked a TOPIC: what he does, as in would()");
        ShrugHills x = hills(FULL + "holds tired=4;");
        int[][] asked = {{0, 0}, {6, 4}, {3, 2}, {4, 4}, {5, 4}, {5, 3}, {0, 4}};
        int[] want = {2, 2, 2, 1, 0, 2, 2};
        for (int k = 0; k < asked.length; k++) {
            s.due("would", x.would(asked[k][0], asked[k][1]), want[k]);
            s.due("asks " + Arrays.toString(asked[k]), x.asks(asked[k][0], asked[k][1]), want[k]);
            s.due("an act", x.has(9), k + 1);
        }
        s.due("kept", x.has(7), 5);
        s.due("held once he is so tired", x.would(3, 2), 1);
        s.due("the day stays", x.has(5), 0);
        s.says("NONE, refused (2), when there are none such");
        int[][] none = {{-1, 0}, {2, 0}, {0, -1}, {0, 2}, {LEAST, 0}, {GREATEST, 0}, {0, LEAST}, {0, GREATEST}, {-1, -1}, {2, 2}};
        for (int[] a : none) {
            s.due("asks " + Arrays.toString(a), Twins.busy().asks(a[0], a[1]), NONE);
            refusedAct("asks() " + Arrays.toString(a), y -> y.asks(a[0], a[1]));
        }
        s.due("person 7", hills(FULL).asks(7, 0), NONE);
        s.due("topic 5", hills(FULL).asks(0, 5), NONE);
        s.due("without topics", hills("plain 3 by 3;person p at 0 0 tired 0;").asks(0, 0), NONE);
    }

    private static void teach() {
        s.promise(25);
        s.says("A PERSON is taught a TOPIC (on 1), or forgets it (0): true");
        ShrugHills x = hills(FULL);
        int bits = 0;
        for (int topic = 0; topic < 5; topic++) {
            s.due("taught " + topic, x.teach(6, topic, 1), true);
            bits |= 1 << topic;
            s.due("knows", x.person(6, 3), bits);
            s.due("answers", x.would(6, topic), 0);
        }
        for (int topic = 4; topic >= 0; topic--) {
            s.due("forgets " + topic, x.teach(6, topic, 0), true);
            bits &= ~(1 << topic);
            s.due("knows", x.person(6, 3), bits);
            s.due("shrugs", x.would(6, topic), 2);
        }
        s.due("acts", x.has(9), 10);
        s.due("forgets what the text told", x.teach(5, 4, 0), true);
        s.due("nobody else", x.person(5, 3) + x.person(0, 3), 0);
        s.says("false, refused (2), when it is so already, there are none such, or for others");
        // In Twins.busy() p knows u, q knows t.
        int[][] none = {{0, 1, 1}, {0, 0, 0}, {1, 0, 1}, {1, 1, 0}, {-1, 0, 1}, {2, 0, 1}, {0, -1, 1}, {0, 2, 1}, {0, 2, 0},
            {2, 0, 0}, {0, 0, 2}, {0, 0, -1}, {0, 1, 2}, {0, 1, -1}, {LEAST, 0, 1}, {GREATEST, 0, 1}, {0, LEAST, 1},
            {0, GREATEST, 1}, {0, 0, LEAST}, {0, 0, GREATEST}, {0, 32, 0}, {0, 33, 1}};
        for (int[] a : none) {
            s.due("teach " + Arrays.toString(a), Twins.busy().teach(a[0], a[1], a[2]), false);
            refusedAct("teach() " + Arrays.toString(a), y -> y.teach(a[0], a[1], a[2]));
        }
        s.due("person 7", hills(FULL).teach(7, 0, 1), false);
        s.due("topic 5", hills(FULL).teach(0, 5, 1), false);
    }

    private static void go() {
        s.promise(26);
        s.says("A PERSON goes to a CELL: true");
        ShrugHills x = hills(FULL);
        int[][] cells = {{6, 0}, {0, 6}, {5, 6}, {0, 1}, {6, 6}};
        s.due("g makes room", x.go(6, 1, 0), true);
        for (int[] cell : cells) {
            s.due("go " + Arrays.toString(cell), x.go(0, cell[0], cell[1]), true);
            s.due("column", x.person(0, 0), cell[0]);
            s.due("row", x.person(0, 1), cell[1]);
        }
        s.due("back to where none is now", x.go(6, 0, 0), true);
        s.due("acts", x.has(9), 7);
        s.due("as tired as ahead", x.person(6, 2), 9);
        s.says("false, refused (2), when one is in it, or there are none such");
        // In Twins.busy() p is at 2 2, q at 0 0.
        int[][] none = {{0, 0, 0}, {1, 2, 2}, {0, 2, 2}, {1, 0, 0}, {0, -1, 0}, {0, 0, -1}, {0, 3, 0}, {0, 0, 3}, {-1, 1, 0},
            {2, 1, 0}, {LEAST, 1, 0}, {GREATEST, 1, 0}, {0, LEAST, 0}, {0, GREATEST, 0}, {0, 0, LEAST}, {0, 0, GREATEST}};
        for (int[] a : none) {
            s.due("go " + Arrays.toString(a), Twins.busy().go(a[0], a[1], a[2]), false);
            refusedAct("go() " + Arrays.toString(a), y -> y.go(a[0], a[1], a[2]));
        }
        for (int p = 0; p < 7; p++) {
            for (int other = 0; other < 7; other++) {
                s.due("each is in his", hills(FULL).go(p, other, other), false);
            }
        }
        s.due("person 7", hills(FULL).go(7, 1, 0), false);
        s.due("7 0", hills(FULL).go(0, 7, 0), false);
        s.due("0 7", hills(FULL).go(0, 0, 7), false);
    }

    private static void ease() {
        s.promise(27);
        s.says("A PERSON rests: true");
        ShrugHills x = hills(FULL);
        s.due("of 1", x.ease(1), true);
        s.due("of 9", x.ease(6), true);
        s.due("not tired", x.person(1, 2) + x.person(6, 2), 0);
        s.due("others stay", x.person(5, 2), 5);
        s.due("acts", x.has(9), 2);
        s.says("false, refused (2), when he is not tired, or there is none such");
        s.due("not tired", x.ease(0), false);
        s.due("not tired any more", x.ease(6), false);
        s.due("refused", x.status(2), 2);
        s.due("acts", x.has(9), 2);
        ShrugHills rested = Twins.busy();
        ShrugHills twin = Twins.busy();
        rested.ease(0);
        twin.ease(0);
        Twins.refused(s, "ease() of one who is not tired", 2, rested, twin, y -> y.ease(0));
        int[] none = {-1, 2, LEAST, GREATEST};
        for (int p : none) {
            s.due("ease " + p, Twins.busy().ease(p), false);
            refusedAct("ease() " + p, y -> y.ease(p));
        }
        s.due("person 7", hills(FULL).ease(7), false);
    }

    /** How many days there may be; all others are refused (3) and nothing is done. */
    private static void dayBounds(String name, Ahead call) {
        int[] days = {0, 898, 899, 900, 901, 998, 999};
        int[] counts = {1, 2, 98, 99, 100};
        for (int day : days) {
            for (int n : counts) {
                ShrugHills x = atDay(hills(ONE), day);
                boolean can = day + n <= 999;
                s.due(name + " " + n + " on day " + day, call.tell(x, n) != NONE, can);
                s.due("the day", x.has(5), can ? day + n : day);
                s.due("an act", x.has(9), can ? 1 : 0);
                s.due("kept", x.has(7), can ? Math.min(n, 40) : 0);
                s.due("refused", x.status(3), can ? 0 : 1);
            }
        }
        int[] none = {0, -1, -100, 101, 102, 999, LEAST, GREATEST};
        for (int n : none) {
            s.due(name + " " + n, call.tell(Twins.busy(), n), NONE);
            Twins.refused(s, name + " " + n, 3, x -> call.tell(x, n));
        }
        int[] any = {1, 100, 0, 101};
        for (int n : any) {
            s.due(name + " without a plain", call.tell(new ShrugHills(), n), NONE);
            Twins.refusedIdle(s, name + " " + n + " without a plain", 3, x -> call.tell(x, n));
        }
        ShrugHills late = atDay(Twins.busyWithoutTape(), 999);
        ShrugHills twin = atDay(Twins.busyWithoutTape(), 999);
        Twins.refused(s, name + " on day 999", 3, late, twin, x -> call.tell(x, 1));
    }

    private static void days() {
        s.promise(28);
        s.says("n DAYS (1 .. 100): how many SHRUGS");
        ShrugHills x = hills(PAIR + "holds tired>8;");
        // p shrugs until he is tired by 9, q knows t but is asked u, and begins with 4.
        s.due("100", x.days(100), 14);
        s.due("kept", x.has(7), 14);
        s.due("one", hills(PAIR).days(1), 1);
        s.due("two", hills(PAIR).days(2), 2);
        s.due("100 shrugs", hills(ONE).days(100), 100);
        s.due("without a list", hills("plain 3 by 3;").days(100), 0);
        s.due("none shrugs", hills(ONE + "knows p of t;").days(100), 0);
        s.says("NONE, refused (3), when it can't be, or without a plain");
        dayBounds("days", ShrugHills::days);
    }

    private static void chance() {
        s.promise(29);
        s.says("n DAYS by the seed (1 .. 100), one ACT: how many SHRUGS of crowds");
        ShrugHills x = hills(ONE + "crowd 100;");
        s.due("100 of crowds alone", x.chance(100), 100);
        s.due("one act", x.has(9), 1);
        s.due("the days' own are kept, too", x.kept(39, 0) * 1000 + x.kept(38, 0), 99099);
        s.due("undone at once", x.undo() && x.has(5) == 0 && x.has(7) == 0, true);
        s.due("one", x.chance(1), 1);
        s.due("its shrugs", x.has(7), 2);
        s.due("without a crowd", hills(ONE).chance(100), 0);
        s.due("crowds who know", hills(ONE + "crowd 100;knows p of t;").chance(100), 0);
        s.due("crowds who hold", hills(ONE + "crowd 100;holds all;").chance(100), 0);
        s.says("NONE, refused (3), when it can't be, or without a plain");
        dayBounds("chance", ShrugHills::chance);
    }

    private static void undo() {
        s.promise(30);
        s.says("The latest ACT is undone (the seed stays): true");
        for (int last = 1; last <= 7; last++) {
            // The acts up to the last one, which is undone; its twin has done those ahead of it alone.
            ShrugHills x = hills(Twins.PLAIN);
            ShrugHills twin = hills(Twins.PLAIN);
            for (int k = 1; k < last; k++) {
                s.due("act " + k, act(x, k) && act(twin, k), true);
            }
            s.due("act " + last, act(x, last), true);
            s.due("an act more", x.has(9), last);
            s.due("undone", x.undo(), true);
            Twins.same(s, "as ahead of act " + last, Twins.sight(x), Twins.sight(twin));
            for (int k = 1; k < last; k++) {
                s.due("undone", x.undo(), true);
            }
            Twins.same(s, "as at first", Twins.sight(x), Twins.sight(hills(Twins.PLAIN)));
        }
        seedStays();
        s.says("false, refused (4), when none can be");
        ShrugHills x = hills(Twins.PLAIN);
        s.due("none", x.undo(), false);
        s.due("refused", x.status(4), 1);
        for (int acts = 18; acts <= 22; acts++) {
            ShrugHills y = hills(ONE);
            for (int k = 0; k < acts; k++) {
                y.days(1);
            }
            for (int k = 1; k <= 20; k++) {
                s.due("undone " + k + " of " + acts, y.undo(), k <= acts);
                s.due("day", y.has(5), Math.max(0, acts - k));
            }
            s.due("the 21st", y.undo(), false);
            s.due("refused", y.status(4), Math.max(1, 21 - acts));
            s.due("day", y.has(5), Math.max(0, acts - 20));
        }
        s.due("no act yet", hills(ONE).undo(), false);
        Twins.refusedIdle(s, "undo() without a plain", 4, ShrugHills::undo);
        ShrugHills none = atDay(Twins.busyWithoutTape(), 7);
        ShrugHills twin = atDay(Twins.busyWithoutTape(), 7);
        Twins.refused(s, "undo() of none", 4, none, twin, ShrugHills::undo);
    }

    /** One of each kind of act. */
    private static boolean act(ShrugHills x, int k) {
        return switch (k) {
            case 1 -> x.asks(1, 0) == 0;
            case 2 -> x.days(2) > 0;
            case 3 -> x.teach(0, 1, 1);
            case 4 -> x.go(1, 2, 2);
            case 5 -> x.ease(1);
            case 6 -> x.chance(5) != NONE;
            default -> x.asks(0, 0) == 2;
        };
    }

    private static void seedStays() {
        ShrugHills x = hills(Twins.PLAIN);
        ShrugHills twin = hills(Twins.PLAIN);
        x.seed(5);
        x.days(1);
        x.seed(6);
        s.due("undone", x.undo(), true);
        twin.seed(6);
        s.due("the seed is the latest", x.chance(60), twin.chance(60));
        Twins.same(s, "the seed is the latest", Twins.sight(x), Twins.sight(twin));
        // Behind one day whose draw of 100 is not below 50 the seed has been drawn once.
        ShrugHills drawn = hills(Twins.PLAIN);
        int seed = 0;
        while (next(seed) / 64 % 100 < 50) {
            seed++;
        }
        drawn.seed(seed);
        drawn.chance(1);
        s.due("undone", drawn.undo(), true);
        ShrugHills by = hills(Twins.PLAIN);
        by.seed((int) next(seed));
        s.due("the seed goes on", drawn.chance(60), by.chance(60));
        Twins.same(s, "the seed goes on", Twins.sight(drawn), Twins.sight(by));
    }

    private static long next(long x) {
        return (1103515245L * x + 12345L) % 2147483648L;
    }

    private static void seed() {
        s.promise(31);
        s.says("The seed: true");
        int[] fine = {0, 1, 2, 77, GREATEST - 1, GREATEST};
        for (int seed : fine) {
            ShrugHills x = hills(ONE + "crowd 50;");
            s.due("seed " + seed, x.seed(seed), true);
            s.due("a crowd by it", x.chance(1), next(seed) / 64 % 100 < 50 ? 1 : 0);
            s.due("nothing refused", x.status(5), 0);
            s.due("no act", x.has(9), 1);
        }
        s.due("without a plain", new ShrugHills().seed(3), true);
        s.says("false, refused (5), when it is below 0.");
        int[] none = {-1, -2, -77, LEAST, LEAST + 1};
        for (int seed : none) {
            s.due("seed " + seed, Twins.busy().seed(seed), false);
            Twins.refused(s, "seed " + seed, 5, x -> x.seed(seed));
            Twins.refusedIdle(s, "seed " + seed, 5, x -> x.seed(seed));
        }
        s.says("(It is 1 at first.)");
        ShrugHills x = hills(Twins.PLAIN);
        ShrugHills twin = hills(Twins.PLAIN);
        twin.seed(1);
        s.due("as by 1", x.chance(100), twin.chance(100));
        Twins.same(s, "as by 1", Twins.sight(x), Twins.sight(twin));
        ShrugHills other = hills(Twins.PLAIN);
        other.seed(0);
        other.chance(100);
        s.due("not as by 0", Arrays.equals(Twins.sight(x), Twins.sight(other)), false);
    }

    // ---- promise 32

    private static void questions() {
        s.promise(32);
        s.says("The tape (it goes) is a QUESTION: its answer");
        ShrugHills x = hills(PAIR);
        String[] texts = {"total tired", "total", "", "first not all"};
        long[] answers = {4, NOTHING, NOTHING, NONE};
        for (int k = 0; k < 4; k++) {
            s.due(texts[k], ask(x, texts[k]), answers[k]);
            s.due("the tape went", x.end(1), false);
        }
        s.due("the longest", ask(x, blanks(800) + "total 7" + blanks(793)), 14);
        s.due("no act, nothing refused", x.has(9) + x.status(1) + x.status(5), 0);
        ShrugHills full = hills(FULL);
        s.due("first of seven", ask(full, "first tired>0"), 1);
        s.due("the first", ask(full, "first all"), 0);
        s.due("the last", ask(full, "last all"), 6);
        s.due("last of seven", ask(full, "last tired<9"), 5);
        s.due("often", ask(full, "often all"), 7);
        s.due("total", ask(full, "total tired"), 24);
        s.due("most", ask(full, "most tired"), 9);
        s.due("least", ask(full, "least 9-tired"), 0);
        s.due("least", ask(full, "least 12-tired"), 3);
        s.due("least of one", ask(hills(ONE), "least 7"), 7);
        s.due("most of one", ask(hills(ONE), "most 0-7"), -7);
        s.due("the greatest total", ask(full, "total 9999*9999"), 7000000);
        s.says("NONE of first, last, when its TEST holds for none");
        s.due("first", ask(full, "first tired>9"), NONE);
        s.due("last", ask(full, "last tired>9"), NONE);
        s.due("first of nobody", ask(hills("plain 3 by 3;"), "first all"), NONE);
        s.due("last of nobody", ask(hills("plain 3 by 3;"), "last all"), NONE);
        s.due("often is 0", ask(full, "often tired>9"), 0);
        s.says("NOTHING with a FAULT, or, doing nothing else, without a plain");
        String[] faults = {"", " ", "x", "total", "total x", "total 1 1", "total 1;", "first 1", "total (((((((1)))))))"};
        for (String fault : faults) {
            ShrugHills y = Twins.busyWithoutTape();
            ShrugHills twin = Twins.busyWithoutTape();
            s.due("with a fault: " + fault, ask(y, fault), NOTHING);
            s.due("its fault", y.fault(0), fault.contains("(") ? 4 : 1);
            Twins.alike(s, "behind " + fault, y, twin, NONE, false);
        }
        String[] any = {"often all", "total 1", "x", ""};
        for (String text : any) {
            ShrugHills y = new ShrugHills();
            ShrugHills twin = new ShrugHills();
            s.due("without a plain: " + text, ask(y, text), NOTHING);
            s.due("the tape went", y.end(1), false);
            s.due("the tape is empty", twin.end(1), false);
            Twins.alike(s, "without a plain, behind " + text, y, twin, NONE, true);
        }
        ShrugHills faulty = new ShrugHills();
        Tape.put(faulty, "plain 3 by 8");
        faulty.plain();
        s.due("without a plain", ask(faulty, "total 1"), NOTHING);
        fault(faulty, "as it was", 2, 11);
    }

    // ---- promises 33 to 36

    private static void images() {
        s.promise(33);
        s.says("AN IMAGE is written: how many bytes.");
        s.due("without a plain", new ShrugHills().image(), 3);
        for (int columns = 3; columns <= 7; columns++) {
            for (int rows = 3; rows <= 7; rows++) {
                s.due("cells alone", hills("plain " + columns + " by " + rows + ";").image(), 3 + columns * rows);
            }
        }
        s.due("one person", hills(ONE).image(), 3 + 9 + 4);
        ShrugHills full = hills(FULL);
        s.due("the longest", full.image(), 3 + 49 + 28);
        s.due("no act", full.has(9), 0);
        octet();
        on();
        status();
    }

    private static void octet() {
        s.promise(34);
        s.says("Byte k of the latest image()");
        ShrugHills x = hills(FULL);
        atDay(x, 999);
        x.image();
        int[] people = {0, 0, 0, 0, 1, 1, 1, 0, 2, 2, 2, 0, 3, 3, 3, 0, 4, 4, 4, 0, 5, 5, 5, 16, 6, 6, 9, 0};
        int check = 227;
        for (int k = 0; k < 79; k++) {
            int want = k == 0 ? 3 : k == 1 ? 231 : k < 51 ? 50 : people[k - 51];
            s.due("byte " + k, x.octet(k), want);
            check = (3 * check + want) % 251;
        }
        s.due("the last", x.octet(79), check);
        ShrugHills y = hills(ONE);
        y.image();
        y.days(1);
        s.due("the day then", y.octet(1), 0);
        s.due("a height then", y.octet(5), 50);
        y.image();
        s.due("the day now", y.octet(1), 1);
        s.due("a height now", y.octet(5), 53);
        y.undo();
        s.due("no image behind an undone act", y.octet(1), 1);
        s.says("NONE when there is none such");
        int[] none = {-1, 80, 81, LEAST, GREATEST};
        for (int k : none) {
            s.due("byte " + k, x.octet(k), NONE);
        }
        s.due("byte 15 of 16", y.octet(15) != NONE, true);
        s.due("byte 16 of 16", y.octet(16), NONE);
        Tape.put(x, "plain 3 by 3;");
        x.plain();
        s.due("12 bytes now", x.image(), 12);
        s.due("byte 11", x.octet(11) != NONE, true);
        s.due("byte 12, of an older one", x.octet(12), NONE);
        s.due("no image yet", hills(ONE).octet(0), NONE);
        ShrugHills idle = new ShrugHills();
        idle.image();
        s.due("byte 2 of 3", idle.octet(2), 35);
        s.due("byte 3 of 3", idle.octet(3), NONE);
    }

    /** Day 7, heights 0 to 8, p at 2 2 tired by 9 who knows both, q at 2 1 who knows none. */
    private static int[] good() {
        return checked(0, 7, 0, 1, 2, 3, 4, 5, 6, 7, 8, 2, 2, 9, 3, 2, 1, 0, 0, 0);
    }

    private static int[] goodBut(int... placesAndBytes) {
        int[] bytes = good();
        for (int k = 0; k < placesAndBytes.length; k += 2) {
            bytes[placesAndBytes[k]] = placesAndBytes[k + 1];
        }
        return checked(bytes);
    }

    private static void on() {
        s.promise(35);
        s.says("The tape (it goes) is AN IMAGE of this PLAIN: true, all is as it tells, nothing is KEPT or can be undone");
        ShrugHills x = Twins.busyWithoutTape();
        s.due("kept, undone", x.has(7) > 0 && x.has(9) > 0, true);
        s.due("on", on(x, good()), true);
        s.due("the tape went", x.end(1), false);
        s.due("nothing kept", x.has(7), 0);
        s.due("nothing kept", x.kept(0, 0), NONE);
        s.due("none can be undone", x.has(9) == 0 && !x.undo(), true);
        s.due("the day", x.has(5), 7);
        for (int cell = 0; cell < 9; cell++) {
            s.due("height", x.height(cell % 3, cell / 3), cell);
        }
        int[] people = {2, 2, 9, 3, 2, 1, 0, 0};
        for (int k = 0; k < 8; k++) {
            s.due("person", x.person(k / 4, k % 4), people[k]);
        }
        s.due("rows of the list stay", x.list(1, 1), 1);
        int[][] fine = {goodBut(0, 3, 1, 231), goodBut(0, 3, 1, 0), goodBut(0, 0, 1, 0), goodBut(0, 2, 1, 255), goodBut(2, 99),
            goodBut(10, 99), goodBut(13, 0), goodBut(17, 9), goodBut(14, 0), goodBut(18, 3), goodBut(11, 0, 12, 0),
            goodBut(15, 0, 16, 2)};
        for (int[] bytes : fine) {
            ShrugHills y = hills(PAIR);
            s.due("on " + Arrays.toString(bytes), on(y, bytes), true);
            s.due("as it tells", Arrays.equals(image(y), bytes), true);
            s.due("nothing refused", y.status(5), 0);
        }
        ShrugHills full = hills(FULL);
        full.chance(100);
        int[] own = image(full);
        ShrugHills other = hills(FULL);
        s.due("the longest", on(other, own) && Arrays.equals(image(other), own), true);
        s.due("without people", on(hills("plain 3 by 3;"), checked(3, 231, 0, 0, 0, 0, 0, 0, 0, 0, 0, 0)), true);
        noImages();
    }

    private static void noImages() {
        s.says("false, refused (5), when it is none (DAY 999, heights 99, tired 9 at most; CELLS, TOPICS that there are, no two "
                + "in one CELL), or without a plain, all staying");
        int[] last = good();
        last[19] = (last[19] + 1) % 251;
        int[] beyond = good();
        beyond[19] += 251;
        int[][] none = {{}, {0}, {0, 0, 35}, Arrays.copyOf(good(), 19), checked(Arrays.copyOf(good(), 19)),
            checked(Arrays.copyOf(good(), 16)), checked(Arrays.copyOf(good(), 21)), checked(Arrays.copyOf(good(), 24)), last,
            goodBut(0, 3, 1, 232), goodBut(0, 4, 1, 0), goodBut(0, 255, 1, 255), goodBut(2, 100), goodBut(10, 100),
            goodBut(6, 255), goodBut(13, 10), goodBut(17, 10), goodBut(17, 255), goodBut(11, 3), goodBut(12, 3),
            goodBut(15, 3), goodBut(16, 3), goodBut(15, 255), goodBut(16, 255), goodBut(14, 4), goodBut(18, 4),
            goodBut(18, 255), goodBut(16, 2), goodBut(12, 1)};
        for (int[] bytes : none) {
            String what = "on() of " + Arrays.toString(bytes);
            ShrugHills x = Twins.busyWithoutTape();
            s.due(what, on(x, bytes), false);
            s.due("refused", x.status(5), 1);
            s.due("the tape went", x.end(1), false);
            Twins.refusedTape(s, what, 5, true, bytes, ShrugHills::on);
        }
        if (beyond[19] < 256) {
            s.due("a last byte that is like modulo 251", on(hills(PAIR), beyond), false);
        }
        // Another byte ahead of it is not noticed by its limits, but by the last byte.
        for (int k = 0; k < 19; k++) {
            int[] bytes = good();
            bytes[k] = bytes[k] == 0 ? 1 : bytes[k] - 1;
            s.due("byte " + k + " is another", on(hills(PAIR), bytes), false);
        }
        int[][] any = {{}, {0, 0, 35}, good()};
        for (int[] bytes : any) {
            s.due("without a plain", on(new ShrugHills(), bytes), false);
            Twins.refusedTape(s, "on() without a plain", 5, false, bytes, ShrugHills::on);
        }
        s.due("of another plain", on(hills("plain 4 by 3;topic t;topic u;person p at 1 1 tired 0;person q at 0 0 tired 4;"),
                good()), false);
        s.due("without topics", on(hills("plain 3 by 3;person p at 1 1 tired 0;"),
                checked(0, 0, 0, 0, 0, 0, 0, 0, 0, 0, 0, 0, 0, 0, 1, 0)), false);
        s.due("none known without topics", on(hills("plain 3 by 3;person p at 1 1 tired 0;"),
                checked(0, 0, 0, 0, 0, 0, 0, 0, 0, 0, 0, 0, 0, 0, 0, 0)), true);
        int[] seven = image(hills(FULL));
        seven[75] = 0;
        seven[76] = 0;
        s.due("the seventh with the first", on(hills(FULL), checked(seven)), false);
        for (int p = 0; p < 7; p++) {
            for (int other = 0; other < p; other++) {
                int[] two = image(hills(FULL));
                two[51 + 4 * p] = two[51 + 4 * other];
                s.due(p + " in the column of " + other, on(hills(FULL), checked(two)), true);
                two[52 + 4 * p] = two[52 + 4 * other];
                s.due(p + " in the cell of " + other, on(hills(FULL), checked(two)), false);
            }
        }
        seven[75] = 6;
        seven[76] = 0;
        seven[78] = 31;
        s.due("five topics", on(hills(FULL), checked(seven)), true);
        seven[78] = 32;
        s.due("a sixth", on(hills(FULL), checked(seven)), false);
    }

    private static void status() {
        s.promise(36);
        s.says("How many were refused: 0 feed(), end(); 1 plain(), see(); 2 asks(), teach(), go(), ease(); 3 days(), chance(); "
                + "4 undo(); 5 seed(), on().");
        ShrugHills full = new ShrugHills();
        Tape.put(full, blanks(1600));
        full.feed(0, 0, 0, 0, 0);
        s.due("feed()", full.status(0), 1);
        full.end(-1);
        s.due("end()", full.status(0), 2);
        full.end(0);
        s.due("end() that is not", full.status(0), 2);
        ShrugHills x = hills(PAIR);
        int[] kinds = {1, 1, 2, 2, 2, 2, 3, 3, 4, 5, 5};
        int[] want = new int[6];
        for (int times = 0; times < 3; times++) {
            for (int k = 0; k < kinds.length; k++) {
                refuse(x, k);
                want[kinds[k]]++;
                for (int what = 0; what < 6; what++) {
                    s.due("status " + what + " behind " + k, x.status(what), want[what]);
                }
            }
        }
        tellNone(x);
        for (int what = 0; what < 6; what++) {
            s.due("what is told as NONE is not refused, status " + what, x.status(what), want[what]);
        }
        Tape.put(x, PAIR);
        x.plain();
        s.due("on", on(x, image(x)), true);
        for (int what = 0; what < 6; what++) {
            s.due("it stays, status " + what, x.status(what), want[what]);
        }
        s.says("NONE for others.");
        int[] others = {-1, -2, 6, 7, LEAST, GREATEST};
        for (int what : others) {
            s.due("status " + what, x.status(what), NONE);
        }
    }

    private static void refuse(ShrugHills x, int k) {
        switch (k) {
            case 0 -> x.plain();
            case 1 -> x.see();
            case 2 -> x.asks(2, 0);
            case 3 -> x.teach(0, 0, 0);
            case 4 -> x.go(0, 0, 0);
            case 5 -> x.ease(0);
            case 6 -> x.days(101);
            case 7 -> x.chance(0);
            case 8 -> x.undo();
            case 9 -> x.seed(-1);
            default -> x.on();
        }
    }

    private static void tellNone(ShrugHills x) {
        x.fault(2);
        x.has(10);
        x.letter(2, 0, 0);
        x.height(3, 0);
        x.person(2, 0);
        x.list(2, 0);
        x.would(2, 0);
        x.kept(0, 0);
        x.later(0, 0, 61);
        x.tired(0, 61);
        x.rises(0, 0, 100);
        x.plan(0, 100, 0, NONE);
        x.way(3, 0);
        x.pond(3, 0);
        x.keeps(0, 0, 21);
        x.rest(21);
        x.who(2);
        x.tells(2, 0);
        ask(x, "wrong");
        x.octet(80);
        x.status(6);
    }
}
