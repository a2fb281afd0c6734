import java.io.IOException;
import java.util.ArrayList;
import java.util.Arrays;
import java.util.List;

/** The words of the terms I to IV, one by one, at their boundaries, each by a promise that shows them. */
public final class TermsTest {
    private static final int NONE = -1;
    private static final long NOTHING = -1000000000000000L;
    private static final String BARE = "plain 3 by 3;";
    private static final String[] OWN_WORDS = {"plain", "by", "high", "topic", "person", "at", "tired", "knows", "of", "asks",
        "lifts", "tires", "holds", "crowd", "height", "known", "day", "side", "number", "column", "row", "or", "and", "not",
        "all", "min", "max"};

    /** One who lifts 0 1 and 2 1 by 3 each day. */
    private static final String ONE = "plain 3 by 3;topic t;person p at 1 1 tired 0;asks p of t;";

    private static Sentences s;

    private TermsTest() {
    }

    public static void main(String[] args) throws IOException {
        s = new Sentences("TermsTest");
        statements();
        language();
        names();
        faults();
        shrugs();
        daysAndActs();
        ahead();
        keptAndRest();
        seenAndTelling();
        questions();
        questionFaults();
        images();
        s.finish();
    }

    // ---- helpers

    private static ShrugHills hills(String text) {
        ShrugHills x = new ShrugHills();
        Tape.put(x, text);
        s.due("a plain without a fault: " + text, x.plain() != NONE, true);
        return x;
    }

    private static long ask(ShrugHills x, String text) {
        Tape.put(x, text);
        return x.ask();
    }

    /** As a plain, the text has that fault at that place (0, NONE: it has none). */
    private static void fault(String text, int kind, int place) {
        ShrugHills x = new ShrugHills();
        Tape.put(x, text);
        s.due("a fault of " + text, x.plain() == NONE, kind != 0);
        s.due("the fault of " + text, x.fault(0), kind);
        s.due("its place in " + text, x.fault(1), place);
        s.due("a plain by " + text, x.has(0) > 0, kind == 0);
        s.due("refused of " + text, x.status(1), kind == 0 ? 0 : 1);
    }

    private static void fine(String text) {
        fault(text, 0, NONE);
    }

    /** The text behind the bare plain has that fault, where "^" stands in it. */
    private static void faultAt(int kind, String marked) {
        fault(BARE + marked.replace("^", ""), kind, BARE.length() + marked.indexOf('^'));
    }

    private static int[] heights(ShrugHills x) {
        int columns = x.has(0);
        int[] all = new int[columns * x.has(1)];
        for (int cell = 0; cell < all.length; cell++) {
            all[cell] = x.height(cell % columns, cell / columns);
        }
        return all;
    }

    private static void heights(ShrugHills x, int... want) {
        int[] got = heights(x);
        s.due("how many cells", got.length, want.length);
        for (int cell = 0; cell < want.length; cell++) {
            s.due("height of cell " + cell, got[cell], want[cell]);
        }
    }

    private static int number(ShrugHills x, int cell) {
        int columns = x.has(0);
        return cell / columns * 8 + cell % columns;
    }

    private static ShrugHills atDay(ShrugHills x, int day) {
        while (x.has(5) < day) {
            x.days(Math.min(100, day - x.has(5)));
        }
        s.due("day", x.has(5), day);
        return x;
    }

    // ---- I: statements

    private static void statements() {
        s.terms("I", 4);
        s.says("A PLAIN is a text: { STATEMENT ; } (80 at most)");
        fine(BARE + "crowd 1;".repeat(79));
        fine(BARE + "crowd 1;".repeat(79) + " \n ".repeat(100));
        fault(BARE + "crowd 1;".repeat(80), 5, 13 + 8 * 79);
        fault(BARE + "crowd 1", 1, 20);
        fault(BARE + ";", 1, 13);
        s.says("plain N by N (3 .. 7 columns, rows; the first STATEMENT, and it alone)");
        for (int columns = 0; columns <= 10; columns++) {
            for (int rows = 0; rows <= 10; rows++) {
                String text = "plain " + columns + " by " + rows + ";";
                boolean wrongColumns = columns < 3 || columns > 7;
                boolean wrongRows = rows < 3 || rows > 7;
                fault(text, wrongColumns || wrongRows ? 2 : 0, wrongColumns ? 6 : wrongRows ? 10 + ("" + columns).length() : NONE);
                if (!wrongColumns && !wrongRows) {
                    ShrugHills x = hills(text);
                    s.due("columns", x.has(0), columns);
                    s.due("rows", x.has(1), rows);
                }
            }
        }
        fault("plain 9999 by 3;", 2, 6);
        fault("plain 3 by 9999;", 2, 11);
        String[] others = {"high 0 0 0;", "topic t;", "person p at 0 0 tired 0;", "knows p of t;", "asks p of t;", "lifts 1;",
            "tires 1;", "holds all;", "crowd 1;"};
        for (String other : others) {
            fault(other + BARE, 1, 0);
        }
        fault(BARE + BARE, 1, 13);
        fault(BARE + "crowd 1;" + BARE, 1, 21);
        cellsAndPeople();
        listAndRules();
    }

    private static void cellsAndPeople() {
        s.says("high N N N (a column, a row from 0 on; 0 .. 99; the last height of a CELL counts, 50 without)");
        for (int n = 0; n <= 8; n++) {
            fault("plain 5 by 4;high " + n + " 0 1;", n < 5 ? 0 : 2, n < 5 ? NONE : 18);
            fault("plain 5 by 4;high 0 " + n + " 1;", n < 4 ? 0 : 2, n < 4 ? NONE : 20);
            fault("plain 7 by 7;high " + n + " " + n + " 1;", n < 7 ? 0 : 2, n < 7 ? NONE : 18);
        }
        int[] heights = {0, 1, 98, 99, 100, 101, 9999};
        for (int height : heights) {
            fault(BARE + "high 2 2 " + height + ";", height < 100 ? 0 : 2, height < 100 ? NONE : 22);
        }
        ShrugHills x = hills(BARE + "high 0 1 0;high 2 0 7;high 0 1 99;high 0 1 98;high 2 2 99;high 2 2 0;");
        heights(x, 50, 50, 7, 98, 50, 50, 50, 50, 0);
        s.says("topic NAME (5 TOPICS)");
        String topics = "topic a;topic b;topic c;topic d;topic e;";
        fine(BARE + topics);
        s.due("five", hills(BARE + topics).has(2), 5);
        faultAt(5, topics + "^topic f;");
        faultAt(5, topics + "crowd 1;\n^topic");
        s.says("person NAME at N N tired N (a CELL in which none is; 0 .. 9; 7 PEOPLE)");
        for (int n = 0; n <= 11; n++) {
            fault(BARE + "person p at 0 0 tired " + n + ";", n < 10 ? 0 : 2, n < 10 ? NONE : 35);
            fault(BARE + "person p at " + n + " 0 tired 0;", n < 3 ? 0 : 2, n < 3 ? NONE : 25);
            fault(BARE + "person p at 0 " + n + " tired 0;", n < 3 ? 0 : 2, n < 3 ? NONE : 27);
        }
        faultAt(2, "person p at 2 1 tired 0;person q at 2 ^1 tired 0;");
        faultAt(2, "person p at 0 0 tired 0;person q at 0 ^0");
        fine(BARE + "person p at 2 1 tired 0;person q at 1 2 tired 0;person r at 2 2 tired 0;person v at 1 1 tired 0;");
        StringBuilder people = new StringBuilder();
        for (int k = 0; k < 7; k++) {
            people.append("person ").append((char) ('p' + k)).append(" at ").append(k % 3).append(' ').append(k / 3)
                    .append(" tired 9;");
        }
        fine(BARE + people);
        s.due("seven", hills(BARE + people).has(3), 7);
        faultAt(2, people.substring(0, people.length() - 24) + "person z at 2 ^1 tired 0;");
        faultAt(5, people + "^person z at 2 2 tired 0;");
        faultAt(5, people + " ^person");
    }

    private static void listAndRules() {
        String both = "topic t;topic u;person p at 0 0 tired 0;person q at 1 0 tired 0;";
        s.says("knows NAME of NAME (a PERSON, a TOPIC; not told already)");
        fine(BARE + both + "knows p of t;knows p of u;knows q of t;knows q of u;");
        faultAt(3, both + "knows p of t;knows q of t;knows p of ^t;");
        String five = "topic a;topic b;topic c;topic d;topic e;person p at 0 0 tired 0;person q at 1 0 tired 0;";
        for (char topic = 'a'; topic <= 'e'; topic++) {
            faultAt(3, five + "knows p of " + topic + ";knows p of ^" + topic + ";");
            fine(BARE + five + "knows p of " + topic + ";knows q of " + topic + ";");
            for (char other = 'a'; other <= 'e'; other++) {
                if (other != topic) {
                    fine(BARE + five + "knows p of " + topic + ";knows p of " + other + ";");
                }
            }
        }
        faultAt(3, both + "knows ^t of t;");
        faultAt(3, both + "knows p of ^q;");
        faultAt(3, both + "knows ^x of t;");
        faultAt(3, both + "knows p of ^x;");
        s.due("bits", hills(BARE + both + "knows q of u;").person(1, 3), 2);
        s.says("asks NAME of NAME (a PERSON, a TOPIC: the next row of the LIST; 12 at most)");
        faultAt(3, both + "asks ^t of t;");
        faultAt(3, both + "asks p of ^q;");
        faultAt(3, both + "asks ^x of t;");
        faultAt(3, both + "asks p of ^x;");
        for (int rows = 0; rows <= 12; rows++) {
            ShrugHills x = hills(BARE + both + "asks p of u;".repeat(rows));
            s.due("rows", x.has(4), rows);
        }
        faultAt(5, both + "asks p of t;".repeat(12) + "^asks p of t;");
        faultAt(5, both + "asks p of t;".repeat(12) + "crowd 1; ^asks");
        ShrugHills x = hills(BARE + both + "asks q of u;asks p of t;asks q of u;");
        int[] want = {1, 1, 0, 0, 1, 1};
        for (int k = 0; k < 6; k++) {
            s.due("list", x.list(k / 2, k % 2), want[k]);
        }
        s.says("lifts SUM, tires SUM, holds TEST (one each)");
        fine(BARE + "holds all;tires 1;lifts 1;");
        faultAt(5, "lifts 1;tires 1;holds all;^lifts 1;");
        faultAt(5, "lifts 1;tires 1;holds all;^tires 1;");
        faultAt(5, "lifts 1;tires 1;holds all;^holds all;");
        faultAt(1, "lifts ^all;");
        faultAt(1, "tires 1^<2;");
        faultAt(1, "holds 1^;");
        s.says("crowd N (0 .. 100; the last one counts, 0 without)");
        int[] crowds = {0, 1, 99, 100, 101, 102, 9999};
        for (int crowd : crowds) {
            fault(BARE + "crowd " + crowd + ";", crowd <= 100 ? 0 : 2, crowd <= 100 ? NONE : 19);
        }
        s.due("the last one", hills(ONE + "crowd 0;crowd 100;").chance(50), 50);
        s.due("the last one", hills(ONE + "crowd 100;crowd 0;").chance(50), 0);
        s.due("0 without", hills(ONE).chance(100), 0);
    }

    // ---- I: sums and tests

    /** p, number 0, is tired by 3, stands 77 high at 1 2, knows 2 of 3 topics; it is day 5; he is asked topic 2. */
    private static ShrugHills asked(String rule) {
        ShrugHills x = hills(BARE + "topic a;topic b;topic c;person p at 1 2 tired 3;high 1 2 77;knows p of a;knows p of b;" + rule);
        return atDay(x, 5);
    }

    /** The test holds, or not: as the plain's own, and as a question's, if that may ask so. */
    private static void holds(String test, boolean want) {
        s.due("holds " + test, asked("holds " + test + ";").would(0, 2), want ? 1 : 2);
        if (!test.contains("topic")) {
            s.due("often " + test, ask(asked(""), "often " + test), want ? 1 : 0);
        }
    }

    /** The sum is so much, which is itself a sum that needs no brackets. */
    private static void sum(String sum, String want) {
        holds(sum + "=" + want, true);
        holds(sum + "<" + want, false);
        holds(sum + ">" + want, false);
    }

    private static void language() {
        s.terms("I", 11);
        s.says("TEST: BOTH { or BOTH }. BOTH: FACT { and FACT }. FACT: not FACT; [ TEST ] ; all; SUM SIGN SUM, SIGN < or > or = .");
        holds("all", true);
        holds("not all", false);
        holds("not not all", true);
        for (int bits = 0; bits < 8; bits++) {
            boolean a = (bits & 1) == 1;
            boolean b = (bits & 2) == 2;
            boolean c = (bits & 4) == 4;
            String[] of = {a ? "1=1" : "1=2", b ? "1<2" : "2<1", c ? "2>1" : "1>2"};
            holds(of[0] + " or " + of[1] + " and " + of[2], a || b && c);
            holds(of[0] + " and " + of[1] + " or " + of[2], a && b || c);
            holds("[" + of[0] + " or " + of[1] + "] and " + of[2], (a || b) && c);
            holds("not " + of[0] + " and " + of[1], !a && b);
            holds("not " + of[0] + " or " + of[1] + " or not " + of[2], !a || b || !c);
            holds("not [" + of[0] + " and " + of[1] + " and " + of[2] + "]", !(a && b && c));
        }
        int[][] signs = {{1, 1}, {1, 2}, {2, 1}};
        for (int[] ab : signs) {
            holds(ab[0] + "<" + ab[1], ab[0] < ab[1]);
            holds(ab[0] + ">" + ab[1], ab[0] > ab[1]);
            holds(ab[0] + "=" + ab[1], ab[0] == ab[1]);
        }
        s.says("SUM: PRODUCT { + or - PRODUCT }. PRODUCT: PART { * or / PART }. PART: N (1 to 4 digits); tired; height; known; day; "
                + "topic; ( SUM ) ; min ( SUM , SUM ) ; max ( SUM , SUM ) ; in lifts: side.");
        sum("1+2*3", "7");
        sum("2*3+1", "7");
        sum("(1+2)*3", "9");
        sum("10-6/2", "7");
        sum("min(3,2)", "2");
        sum("min(2,3)", "2");
        sum("max(2,3)", "3");
        sum("max(3,2)", "3");
        sum("max(0-3,0-2)", "0-2");
        sum("min(1+1,3*3)*max(4,5-2)", "8");
        sum("0", "0000");
        sum("007", "7");
        sum("9999", "9999");
        faultAt(1, "tires 0000^0;");
        faultAt(1, "tires 9999^9;");
        faultAt(1, "tires ^side;");
        faultAt(1, "holds ^side=1;");
        fine(BARE + "lifts side;");
        s.says("(Of the PERSON who is asked how tired he is, how high his CELL is, how many TOPICS he knows; the DAY; the number of "
                + "the TOPIC; the height of the CELL that is lifted.)");
        sum("tired", "3");
        sum("height", "77");
        sum("known", "2");
        sum("day", "5");
        sum("topic", "2");
        ShrugHills x = hills(ONE + "high 0 1 53;high 2 1 58;lifts side-50;");
        x.asks(0, 0);
        s.due("53 by 3", x.height(0, 1), 56);
        s.due("58 by 8", x.height(2, 1), 66);
        sums();
        s.terms("I", 24);
        s.says("Without: lifts is 3, tires is tired+1, holds is never.");
        for (int tired = 0; tired <= 9; tired++) {
            ShrugHills y = hills(BARE + "topic t;person p at 1 1 tired " + tired + ";");
            s.due("never held", y.asks(0, 0), 2);
            heights(y, 49, 49, 49, 53, 50, 53, 49, 49, 49);
            s.due("tired+1", y.person(0, 2), Math.min(9, tired + 1));
        }
    }

    private static void sums() {
        s.says("All from the left on");
        sum("100-10-1", "89");
        sum("100-10+1", "91");
        sum("100/10/2", "5");
        sum("7/2*2", "6");
        sum("2*7/2", "7");
        sum("100/7*7-1", "97");
        s.says("/ gives the greatest whole number not above, by 0 it gives 0");
        int[][] divisions = {{7, 2, 3}, {8, 2, 4}, {1, 2, 0}, {0, 5, 0}, {9999, 1, 9999}, {1, 9999, 0}, {7, 0, 0}, {0, 0, 0}};
        for (int[] d : divisions) {
            sum(d[0] + "/" + d[1], "" + d[2]);
        }
        sum("(0-7)/2", "0-4");
        sum("7/(0-2)", "0-4");
        sum("(0-7)/(0-2)", "3");
        sum("(0-8)/2", "0-4");
        sum("8/(0-2)", "0-4");
        sum("(0-8)/(0-2)", "4");
        sum("(0-1)/9999", "0-1");
        sum("(0-7)/(tired-3)+1", "1");
        s.says("each sum, difference, product above 10 to the 6 is that, below -10 to the 6 likewise");
        sum("9999*100+99", "1000*1000-1");
        sum("9999*100+100-1", "1000*1000-1");
        sum("9999*100+101-1", "1000*1000-1");
        sum("9999*100+9999-1", "1000*1000-1");
        sum("1000*1000-1", "9999*100+99");
        sum("1001*1000-1", "9999*100+99");
        sum("9999*9999*9999-1", "9999*100+99");
        sum("0-9999*100-99", "1-1000*1000");
        sum("0-9999*100-100+1", "1-1000*1000");
        sum("0-9999*100-101+1", "1-1000*1000");
        sum("0-9999*9999-9999+1", "1-1000*1000");
        sum("(0-1000)*1000+1", "0-9999*100-99");
        sum("(0-1001)*1000+1", "0-9999*100-99");
        sum("9999*(0-9999)+1", "0-9999*100-99");
        sum("(0-9999)*(0-9999)-1", "9999*100+99");
        sum("(0-9999*9999)/(0-1)-1", "9999*100+99");
        sum("0-9999*9999-9999*9999-9999*9999+1", "0-9999*100-99");
        sum("9999*9999-(0-9999*9999)-1", "9999*100+99");
        sum("(0-9999*9999)+(0-9999*9999)+1", "0-9999*100-99");
    }

    // ---- I: names, blanks

    private static void names() {
        s.terms("I", 4);
        s.says("NAMES: 1 to 6 letters, no OWN WORD, unlike ones (of all sorts), told ahead of where they are asked.");
        for (int letters = 1; letters <= 9; letters++) {
            String name = "zyxwvutsr".substring(0, letters);
            fault(BARE + "topic " + name + ";", letters <= 6 ? 0 : 1, letters <= 6 ? NONE : 13 + 6 + 6);
            fault(BARE + "person " + name + " at 0 0 tired 0;", letters <= 6 ? 0 : 1, letters <= 6 ? NONE : 13 + 7 + 6);
        }
        fine(BARE + "topic a;topic aa;topic aaa;topic aaaa;topic aaaaa;person aaaaaa at 0 0 tired 0;person z at 0 1 tired 0;");
        fine(BARE + "topic abcdef;topic abcdeg;topic fedcba;person bbcdef at 0 0 tired 0;");
        faultAt(3, "topic a;topic b;topic ^a;");
        faultAt(3, "person p at 0 0 tired 0;person ^p");
        faultAt(3, "person p at 0 0 tired 0;topic ^p;");
        faultAt(3, "topic abcdef;person ^abcdef at 0 0 tired 0;");
        faultAt(3, "topic t;asks ^p of t;person p at 0 0 tired 0;");
        faultAt(3, "person p at 0 0 tired 0;asks p of ^t;topic t;");
        faultAt(3, "topic t;knows ^p of t;person p at 0 0 tired 0;");
        s.says("OWN WORDS: plain, by, high, topic, person, at, tired, knows, of, asks, lifts, tires, holds, crowd, height, known, "
                + "day, side, number, column, row, or, and, not, all, min, max.");
        List<String> words = Arrays.asList(OWN_WORDS);
        for (String word : OWN_WORDS) {
            faultAt(1, "topic ^" + word + ";");
            faultAt(1, "person ^" + word + " at 0 0 tired 0;");
            faultAt(1, "topic t;person p at 0 0 tired 0;knows ^" + word + " of t;");
            faultAt(1, "topic t;person p at 0 0 tired 0;asks p of ^" + word + ";");
            String less = word.substring(0, word.length() - 1);
            s.due("no own word", words.contains(less), false);
            fine(BARE + "topic " + less + ";");
            if (word.length() < 6) {
                fine(BARE + "topic " + word + "x;person x" + word + " at 0 0 tired 0;asks x" + word + " of " + word + "x;");
            } else {
                faultAt(1, "topic " + word + "^x;");
            }
        }
        String[] heads = {"first", "last", "often", "total", "most", "least"};
        for (String head : heads) {
            fine(BARE + "topic " + head + ";person p at 0 0 tired 0;asks p of " + head + ";");
        }
        blanks();
    }

    private static final String ALL_STATEMENTS = "plain 3 by 3 ; high 0 1 99 ; topic t ; person p at 2 1 tired 9 ; knows p of t ; "
            + "asks p of t ; lifts 3 + side * ( tired - 1 ) / min ( height , day ) ; tires max ( known , topic ) ; "
            + "holds not all or [ 1 < 2 and tired > 3 ] or day = 7 ; crowd 50 ;";

    private static void blanks() {
        s.says("Blanks (10, 32) are where one likes (words and numbers side by side need one).");
        fine(ALL_STATEMENTS);
        fine("\n \n" + ALL_STATEMENTS.replace(" ", "\n  \n") + "\n ");
        // A blank is needed only between a word or number and another.
        StringBuilder tight = new StringBuilder(ALL_STATEMENTS);
        for (int k = tight.length() - 2; k > 0; k--) {
            if (tight.charAt(k) == ' ' && !(isSign(tight.charAt(k - 1)) && isSign(tight.charAt(k + 1)))) {
                tight.deleteCharAt(k);
            }
        }
        s.due("no blank beside a mark", tight.indexOf(" ;") + tight.indexOf("( "), -2);
        fine(tight.toString());
        for (int b = 0; b < 256; b++) {
            if (b == 10 || b == 32) {
                fine("plain" + (char) b + "3 by" + (char) b + "3" + (char) b + ";" + (char) b);
            } else {
                fault("plain" + (char) b + "3 by 3;", 1, b >= 'a' && b <= 'z' ? 0 : 5);
                fault("plain 3" + (char) b + " by 3;", b >= '0' && b <= '9' ? 2 : 1, b >= '0' && b <= '9' ? 6 : 7);
            }
        }
        String[] sides = {"high^0 0 0;", "crowd^1;", "lifts^1;", "tires 1*2^tired;", "holds 1=2^or all;", "holds all^1", "high 0 0 0^x",
            "topic t^1;", "person p at^0 0 tired 0;", "person p at 0 0^tired 0;", "person p at 0 0 tired^0;", "lifts tired^1;"};
        for (String side : sides) {
            faultAt(1, side);
        }
        fault("plain3 by 3;", 1, 5);
        fault("plain 3by 3;", 1, 7);
        fault("plain 3 by3;", 1, 10);
    }

    private static boolean isSign(char c) {
        return c >= 'a' && c <= 'z' || c >= '0' && c <= '9';
    }

    // ---- I: faults

    private static void faults() {
        s.says("FAULTS, the first along the text: 1 the first byte with which no such text goes on (words and numbers whole, at "
                + "their first byte; where a NAME is asked, an OWN WORD so, a 7th letter at itself; where a number is asked, a 5th "
                + "digit at itself; at the text's length, if it ends too soon)");
        wrongTokens();
        faultAt(2, "high ^3 3 100;~");
        faultAt(1, "^~;high 3 3 100;");
        faultAt(2, "high 0 ^3 100;topic topic;");
        faultAt(3, "topic a;topic ^a;high 9 9 9;");
        faultAt(5, "lifts 1;^lifts (((((((1)))))));");
        faultAt(4, "lifts ((((((^(1)))))));lifts 1;");
        faultAt(1, "topic t^1;topic t;");
        faultAt(1, "high 0000^9 0 0;");
        faultAt(1, "high 9999^9 0 0;");
        faultAt(1, "topic a;topic aaaaaa^a;");
        faultAt(1, "knows zzzzzz^z of t;");
        fault("plain 3 by 3; ", 0, NONE);
        fault("plain 3 by 3 ", 1, 13);
        fault("plain 3 by 3 " + " ".repeat(1587), 1, 1600);
        s.says("2 a number that can't be (of a CELL in which one is the row), at it");
        fault("plain 2 by 2;", 2, 6);
        fault("plain 3 by 2;", 2, 11);
        fault("plain 0008 by 3;", 2, 6);
        faultAt(2, "high ^3 0 0;");
        faultAt(2, "high 0 ^3 0;");
        faultAt(2, "high 0 0 ^100;");
        faultAt(2, "high 0 0   ^0100;");
        faultAt(2, "person p at ^3 0 tired 0;");
        faultAt(2, "person p at 0 ^3 tired 0;");
        faultAt(2, "person p at 0 0 tired ^10;");
        faultAt(2, "person p at 1 2 tired 0;person q at 1   ^2 tired 10;");
        faultAt(2, "crowd ^101;");
        fine("plain 0003 by 0007;high 0002 0006 0099;person p at 002 006 tired 0009;crowd 0100;lifts 9999;");
        s.says("3 a NAME to be given that is there already, one that is none of what is asked, a TOPIC that he knows already, at it");
        String both = "topic t;person p at 0 0 tired 0;";
        faultAt(3, both + "topic ^t;");
        faultAt(3, both + "topic ^p;");
        faultAt(3, both + "person ^t");
        faultAt(3, both + "person  ^p at 9 9 tired 99;");
        faultAt(3, both + "knows ^q of t;");
        faultAt(3, both + "knows ^t of p;");
        faultAt(3, both + "knows p of  ^p;");
        faultAt(3, both + "asks ^t of p;");
        faultAt(3, both + "asks p of ^p;");
        faultAt(3, both + "knows p of t;knows p of ^t");
        deep();
        tooMany();
    }

    /** Each word, number and mark of a text with all statements is put otherwise, or the text ends ahead of it. */
    private static void wrongTokens() {
        String[] tokens = ALL_STATEMENTS.split(" ");
        List<String> asksName = Arrays.asList("topic", "person", "knows", "of", "asks");
        List<String> asksNumber = Arrays.asList("plain", "by", "high", "at", "crowd");
        List<String> asksPart = Arrays.asList("lifts", "tires", "holds", "+", "-", "*", "/", "(", ",", "<", ">", "=", "[", "not",
                "or", "and");
        StringBuilder ahead = new StringBuilder();
        boolean rule = false;
        for (int k = 0; k < tokens.length; k++) {
            String before = k == 0 ? ";" : tokens[k - 1];
            rule = k > 0 && !before.equals(";") && (rule || before.equals("lifts") || before.equals("tires") || before.equals("holds"));
            boolean named = !rule && asksName.contains(before);
            // The rows of cells, heights and "tired 9" are the numbers that do not follow a word that asks them.
            boolean numbered = rule ? asksPart.contains(before) : !named && Character.isDigit(tokens[k].charAt(0));
            s.due("a number is asked behind " + before, numbered || rule || !asksNumber.contains(before), true);
            String behind = ALL_STATEMENTS.substring(ahead.length() + tokens[k].length());
            int at = ahead.length();
            fault(ahead + "~" + behind, 1, at);
            fault(ahead + "(~" + behind, 1, rule && numbered || before.equals("min") || before.equals("max") ? at + 1 : at);
            fault(ahead + "00000" + behind, 1, numbered ? at + 4 : at);
            fault(ahead + "zzzzzzz" + behind, 1, named ? at + 6 : at);
            fault(ahead + "column" + behind, 1, at);
            if (isSign(tokens[k].charAt(0)) && !named && !Character.isDigit(tokens[k].charAt(0))) {
                // A word that goes on is another word, whole.
                fault(ahead + tokens[k] + "x" + behind, 1, at);
                fault(ahead + tokens[k] + "xx" + behind, 1, at);
                fault(ahead + tokens[k].substring(0, tokens[k].length() - 1) + behind, 1, at);
            }
            wrongBytes(ahead.toString(), behind);
            if (k > 0 && !before.equals(";")) {
                fault(ahead.toString(), 1, at);
                fault(ahead.substring(0, at - 1), 1, at - 1);
            } else if (k > 0) {
                fine(ahead.toString());
            }
            ahead.append(tokens[k]).append(' ');
        }
    }

    /** Bytes that are in no text, whatever is asked where they stand. */
    private static void wrongBytes(String ahead, String behind) {
        for (int b = 0; b < 256; b++) {
            if (b != 10 && b != 32 && !isSign((char) b) && ";+-*/()[],<>=".indexOf(b) < 0) {
                fault(ahead + (char) b + behind, 1, ahead.length());
            }
        }
    }

    private static void deep() {
        s.says("4 the 7th of ( [ not that is open at once (not until its FACT ends), at it");
        for (int brackets = 0; brackets <= 7; brackets++) {
            for (int bits = 0; bits < 1 << 7 - brackets; bits++) {
                deepTest(7 - brackets, bits, brackets);
                if (brackets > 0 && bits < 1 << 6 - (brackets - 1)) {
                    deepTest(6 - (brackets - 1), bits, brackets - 1);
                }
            }
        }
        String[] openers = {"(", "min(", "max(1,", "1+(", "2*max(3-"};
        for (String first : openers) {
            for (String last : openers) {
                String open = first.repeat(5) + last;
                fine(BARE + "lifts " + open + "1" + closers(open, ",1") + ";");
                faultAt(4, "lifts " + open + "^(1");
                faultAt(4, "lifts " + open + "min^(1");
                faultAt(1, "lifts " + open + "min^1");
            }
        }
        fine(BARE + "tires (1)+(2)*(3)-(4)/(5)+((((((6))))))+(7)+min(1,(((((7)))))-1);");
        faultAt(4, "tires min(1,(((((^(7))))))-1);");
        faultAt(4, "tires min((((((^(7))))))-1,1);");
        fine(BARE + "holds " + "not all and ".repeat(20) + "not not not not not not all;");
        fine(BARE + "holds " + "not [not (1)=(2)] or ".repeat(20) + "[[[[[[all]]]]]];");
        faultAt(4, "holds not not not not not not ^(1)=1;");
        faultAt(4, "holds not not not not not not 1=^(1);");
        faultAt(4, "holds not not not not not not 1+1=1+^(1);");
        fine(BARE + "holds not not not not not not 1=1 and (1)=1;");
        fine(BARE + "holds [not not not not not 1=1 and (((((1)))))=1] or ((((((1))))))=((((((1))))));");
    }

    /** So many of not (a bit 0) and [ (1), then so many brackets: six are fine, the seventh is not. */
    private static void deepTest(int facts, int bits, int brackets) {
        StringBuilder text = new StringBuilder(BARE + "holds ");
        StringBuilder closed = new StringBuilder();
        int seventh = NONE;
        for (int k = 0; k < facts + brackets; k++) {
            if (k == 6) {
                seventh = text.length();
            }
            boolean square = k < facts && (bits >> k & 1) == 1;
            text.append(k >= facts ? "(" : square ? "[" : "not ");
            if (square) {
                closed.insert(0, "]");
            }
        }
        text.append(brackets > 0 ? "1" : "all");
        text.append(")".repeat(brackets)).append(brackets > 0 ? "=1" : "").append(closed).append(';');
        fault(text.toString(), seventh == NONE ? 0 : 4, seventh);
    }

    /** What closes these: ",1)" for each min, ")" for each other bracket. */
    private static String closers(String open, String second) {
        StringBuilder closed = new StringBuilder();
        for (int k = 0; k < open.length(); k++) {
            if (open.charAt(k) == '(') {
                boolean one = k > 0 && (open.charAt(k - 1) == 'n' || open.charAt(k - 1) == 'x') && !open.startsWith("1,", k + 1);
                closed.insert(0, one ? second + ")" : ")");
            }
        }
        return closed.toString();
    }

    private static void tooMany() {
        s.says("5 one too many of a kind (a second lifts, tires, holds, too), an 81st STATEMENT (whatever stands there), at its "
                + "first byte.");
        String topics = "topic a;topic b;topic c;topic d;topic e;";
        faultAt(5, topics + "  ^topic a;");
        faultAt(5, topics + "^topic1");
        StringBuilder people = new StringBuilder();
        for (int k = 0; k < 7; k++) {
            people.append("person ").append((char) ('p' + k)).append(" at ").append(k % 3).append(' ').append(k / 3)
                    .append(" tired 9;");
        }
        faultAt(5, people + "\n^person p at 0 0 tired 10;");
        faultAt(5, people + topics + "asks p of a;".repeat(12) + " ^asks x of y;");
        faultAt(5, "lifts 1; ^lifts 1;");
        faultAt(5, "tires 1; ^tires");
        faultAt(5, "holds all; ^holds ~");
        String most = BARE + "crowd 1;".repeat(79);
        fine(most + "\n ");
        for (int b = 0; b < 256; b++) {
            if (b != 10 && b != 32) {
                fault(most + "\n" + (char) b, 5, most.length() + 1);
            }
        }
        String[] any = {"plain 3 by 3;", "crowd 1;", "topic t;", "x", "12345", "zzzzzzzz", "crowd 101;", "lifts ((((((((", ";;"};
        for (String statement : any) {
            fault(most + statement, 5, most.length());
            fault(BARE + "crowd 1;".repeat(78) + statement, statement.equals("crowd 1;") || statement.equals("topic t;") ? 0
                    : statement.equals("crowd 101;") ? 2 : statement.startsWith("lifts") ? 4 : 1, placeOf(statement, most.length() - 8));
        }
    }

    private static int placeOf(String statement, int from) {
        return switch (statement) {
            case "crowd 1;", "topic t;" -> NONE;
            case "crowd 101;" -> from + 6;
            case "lifts ((((((((" -> from + 12;
            default -> from;
        };
    }

    // ---- II: shrugs

    private static void shrugs() {
        s.terms("II", 24);
        s.says("Who is asked a TOPIC that he knows answers: nothing is moved.");
        ShrugHills knows = hills(ONE + "knows p of t;holds all;");
        s.due("answers, though he would hold it", knows.asks(0, 0), 0);
        heights(knows, 50, 50, 50, 50, 50, 50, 50, 50, 50);
        s.due("not tired, nothing kept", knows.person(0, 2) + knows.has(7), 0);
        s.says("Else, if the TEST of holds holds, he HOLDS it: nothing is moved.");
        ShrugHills held = hills(ONE + "holds tired=0;");
        s.due("holds", held.asks(0, 0), 1);
        heights(held, 50, 50, 50, 50, 50, 50, 50, 50, 50);
        s.due("not tired, nothing kept", held.person(0, 2) + held.has(7), 0);
        s.says("Else he SHRUGS: the CELL to the left of his (the column less by one), then that to the right, if there is one, is "
                + "lifted as many times by 1 as the SUM of lifts tells by what is so then, 0 .. 9 (below is 0, above 9)");
        for (int lifts = -2; lifts <= 12; lifts++) {
            int each = Math.max(0, Math.min(9, lifts));
            ShrugHills x = hills("plain 3 by 3;topic t;person p at 1 0 tired 0;high 1 2 99;lifts " + (lifts + 2) + "-2;");
            s.due("shrugs", x.asks(0, 0), 2);
            heights(x, 50 + each, 50, 50 + each, 50, 50, 50, 50, 99 - 2 * each, 50);
            s.due("in all", x.kept(0, 3), 2 * each);
        }
        int[] large = {9999, -9999};
        for (int lifts : large) {
            ShrugHills x = hills(ONE + "lifts 0" + (lifts < 0 ? "" : "+") + lifts + "*9999;");
            x.asks(0, 0);
            s.due("far above or below", x.kept(0, 3), lifts < 0 ? 0 : 18);
        }
        sides();
        taken();
        s.says("Then he is as tired as the SUM of tires tells, by what is so then, 0 .. 9 (below is 0, above 9).");
        for (int tires = -2; tires <= 12; tires++) {
            ShrugHills x = hills(ONE + "tires " + (tires + 2) + "-2;");
            x.asks(0, 0);
            s.due("tired by " + tires, x.person(0, 2), Math.max(0, Math.min(9, tires)));
        }
        ShrugHills by = hills("plain 3 by 3;topic t;topic u;person p at 1 1 tired 2;high 1 1 53;knows p of t;tires tired+known+topic+"
                + "height-52+day;");
        by.days(2);
        by.asks(0, 1);
        s.due("2 and 1 and 1 and 1 and 2", by.person(0, 2), 7);
        ShrugHills lifting = hills(ONE + "lifts 1+tired;tires 4;");
        lifting.asks(0, 0);
        s.due("lifts by how tired he was", lifting.height(0, 1) * 100 + lifting.height(2, 1), 5151);
        lifting.asks(0, 0);
        s.due("lifts by how tired he is", lifting.height(0, 1) * 100 + lifting.height(2, 1), 5656);
    }

    private static void sides() {
        // In each column: who has none on one side lifts the other alone.
        for (int column = 0; column < 4; column++) {
            ShrugHills x = hills("plain 4 by 3;topic t;person p at " + column + " 1 tired 0;lifts 1;high 0 2 99;");
            x.asks(0, 0);
            for (int other = 0; other < 4; other++) {
                s.due("column " + other, x.height(other, 1), Math.abs(other - column) == 1 ? 51 : 50);
            }
            s.due("taken", x.height(0, 2), column == 0 || column == 3 ? 98 : 97);
            s.due("in all", x.kept(0, 3), column == 0 || column == 3 ? 1 : 2);
        }
        // There is no more than 4 to be taken: first the left one has it.
        ShrugHills few = hills("plain 3 by 3;topic t;person p at 1 1 tired 0;high 0 0 0;high 1 0 0;high 2 0 0;high 0 2 0;"
                + "high 1 2 4;high 2 2 0;");
        few.asks(0, 0);
        heights(few, 0, 0, 0, 53, 50, 51, 0, 0, 0);
        // By the height of each: 58 by 8, 3 by none.
        ShrugHills side = hills(ONE + "high 0 1 58;high 2 1 3;high 0 0 90;lifts side-50;");
        side.asks(0, 0);
        heights(side, 82, 50, 50, 66, 50, 3, 50, 50, 50);
    }

    private static void taken() {
        s.says("each time 1 is taken from the highest CELL that is none of these two, nor his own (of like ones the first, row by "
                + "row), as long as that is above 0, and the one that is lifted below 99.");
        ShrugHills x = hills(ONE + "lifts 2;high 1 1 99;high 0 1 80;high 2 1 90;high 2 0 52;high 0 2 51;");
        x.asks(0, 0);
        // 52 to 51, then 51s by turns: the first one, 2 0, then 0 2; then the 50s, from 0 0 on.
        heights(x, 49, 50, 50, 82, 99, 92, 50, 50, 50);
        for (int high = 0; high <= 3; high++) {
            ShrugHills y = hills("plain 3 by 3;topic t;person p at 0 0 tired 0;high 2 0 0;high 0 1 0;high 1 1 0;high 2 1 0;high 0 2 0;"
                    + "high 1 2 0;high 2 2 " + high + ";lifts 2;");
            y.asks(0, 0);
            s.due("taken from " + high, y.height(2, 2), Math.max(0, high - 2));
            s.due("lifted", y.height(1, 0), 50 + Math.min(2, high));
            s.due("in all", y.kept(0, 3), Math.min(2, high));
            s.due("not from his own", y.height(0, 0), 50);
        }
        for (int high = 95; high <= 99; high++) {
            ShrugHills y = hills(ONE + "lifts 2;high 0 1 " + high + ";");
            y.asks(0, 0);
            s.due("lifted from " + high, y.height(0, 1), Math.min(99, high + 2));
            s.due("the other, too", y.height(2, 1), 52);
            s.due("in all", y.kept(0, 3), Math.min(99, high + 2) - high + 2);
            s.due("all together", y.has(6), 400 + high);
        }
        ShrugHills full = hills(ONE + "high 0 1 99;high 2 1 99;");
        s.due("shrugs, though nothing is lifted", full.asks(0, 0), 2);
        s.due("nothing", full.kept(0, 3) * 1000 + full.has(6), 548);
        s.due("but tired", full.person(0, 2), 1);
        // Others' cells are taken from, too.
        ShrugHills two = hills("plain 3 by 3;topic t;person p at 1 1 tired 0;person q at 0 0 tired 0;high 0 0 60;lifts 1;");
        two.asks(0, 0);
        s.due("from where q is", two.height(0, 0), 58);
    }

    // ---- II: days, acts

    private static void daysAndActs() {
        s.terms("II", 28);
        s.says("A DAY: the row of the LIST of number DAY modulo its length is asked (none without a LIST).");
        for (int rows = 1; rows <= 12; rows++) {
            StringBuilder text = new StringBuilder("plain 3 by 3;topic a;topic b;topic c;topic d;topic e;person p at 1 1 tired 0;"
                    + "person q at 1 2 tired 0;person r at 1 0 tired 0;lifts 0;");
            for (int k = 0; k < rows; k++) {
                text.append("asks ").append((char) ('p' + k % 3)).append(" of ").append((char) ('a' + k % 5)).append(';');
            }
            ShrugHills x = hills(text.toString());
            s.due("days", x.days(25), 25);
            for (int day = 0; day < 25; day++) {
                s.due("day", x.kept(day, 0), day);
                s.due("who was asked", x.kept(day, 1), day % rows % 3);
                s.due("what he was asked", x.kept(day, 2), day % rows % 5);
            }
        }
        ShrugHills none = hills("plain 3 by 3;topic t;person p at 1 1 tired 0;");
        s.due("none without a list", none.days(100) + none.has(7), 0);
        s.due("but days", none.has(5), 100);
        s.says("The DAY is one more (999 at most; it is 0 at first).");
        ShrugHills x = hills(ONE + "knows p of t;");
        s.due("at first", x.has(5), 0);
        x.days(1);
        s.due("one more", x.has(5), 1);
        x.chance(1);
        s.due("one more", x.has(5), 2);
        atDay(x, 998);
        s.due("the 999th", x.days(1), 0);
        s.due("999", x.has(5), 999);
        s.due("no more", x.days(1), NONE);
        s.due("no more", x.chance(1), NONE);
        s.due("999", x.has(5), 999);
        x.undo();
        s.due("998 again", x.has(5), 998);
        s.due("by the seed", x.chance(1), 0);
        s.due("999", x.has(5), 999);
        acts();
        draws();
    }

    private static void acts() {
        s.terms("II", 30);
        s.says("ACTS: one is asked a TOPIC; one is taught a TOPIC, or forgets it; one goes to another CELL in which none is; one "
                + "rests (he is not tired); DAYS;");
        ShrugHills x = hills("plain 3 by 3;topic t;topic u;person p at 1 1 tired 4;knows p of u;");
        boolean[] done = {x.asks(0, 0) == 2, x.asks(0, 1) == 0, x.teach(0, 0, 1), x.teach(0, 0, 0), x.go(0, 0, 0), x.ease(0),
            x.days(3) == 0, x.chance(2) == 0};
        for (boolean one : done) {
            s.due("done", one, true);
        }
        s.due("acts", x.has(9), 8);
        s.due("not tired", x.person(0, 2), 0);
        s.due("his own cell is no other", x.go(0, 0, 0), false);
        x.seed(5);
        x.image();
        ask(x, "total 1");
        Tape.put(x, 0, 0, 0, 50);
        x.see();
        s.due("the seed, images, questions, what is seen are none", x.has(9), 8);
        s.says("The last 20 can be undone.");
        for (int acts = 19; acts <= 41; acts += 11) {
            ShrugHills y = hills(ONE);
            for (int k = 0; k < acts; k++) {
                y.days(1);
            }
            s.due("of " + acts, y.has(9), Math.min(20, acts));
            int undone = 0;
            for (int k = 0; k < 25; k++) {
                undone += y.undo() ? 1 : 0;
            }
            s.due("undone of " + acts, undone, Math.min(20, acts));
            s.due("the day of " + acts, y.has(5), acts - Math.min(20, acts));
        }
        s.terms("II", 12);
        s.says("KEPT is each SHRUG: DAY, PERSON, TOPIC, how much was lifted in all; the last 40 are told.");
        ShrugHills y = hills("plain 3 by 3;topic t;topic u;person p at 1 1 tired 0;person q at 0 2 tired 0;asks p of u;asks q of t;"
                + "knows p of t;holds day=3;lifts 1+topic;crowd 100;");
        y.days(5);
        y.asks(1, 1);
        y.asks(0, 0);
        int[][] want = {{0, 0, 1, 4}, {1, 1, 0, 1}, {2, 0, 1, 4}, {4, 0, 1, 4}, {5, 1, 1, 2}};
        s.due("neither answers nor what is held", y.has(7), 5);
        for (int k = 0; k < 20; k++) {
            s.due("kept " + k / 4 + " " + k % 4, y.kept(k / 4, k % 4), want[k / 4][k % 4]);
        }
        for (int count = 39; count <= 42; count++) {
            ShrugHills z = hills(ONE);
            z.days(count);
            s.due("of " + count, z.has(7), Math.min(40, count));
            s.due("the oldest of " + count, z.kept(0, 0), count - Math.min(40, count));
            z.days(1);
            z.undo();
            s.due("the oldest of " + count + " again", z.kept(0, 0), count - Math.min(40, count));
            s.due("the latest of " + count + " again", z.kept(Math.min(40, count) - 1, 0), count - 1);
        }
    }

    private static long next(long x) {
        return java.math.BigInteger.valueOf(1103515245).multiply(java.math.BigInteger.valueOf(x))
                .add(java.math.BigInteger.valueOf(12345)).mod(java.math.BigInteger.ONE.shiftLeft(31)).longValueExact();
    }

    private static void draws() {
        s.terms("II", 29);
        s.says("DAYS by the seed: ahead of each a DRAW of 100: below crowd, if there are PEOPLE and TOPICS, a DRAW of the PEOPLE, a "
                + "DRAW of the TOPICS: that one is asked it.");
        int[] seeds = {0, 1, 2, 12345, Integer.MAX_VALUE};
        int[] crowds = {0, 1, 50, 99, 100};
        for (int seed : seeds) {
            for (int crowd : crowds) {
                crowdDays(seed, crowd, 7, 5);
                crowdDays(seed, crowd, 1, 1);
                crowdDays(seed, crowd, 3, 0);
                crowdDays(seed, crowd, 0, 4);
                crowdDays(seed, crowd, 0, 0);
            }
        }
        s.says("A DRAW of m: x (the seed) becomes (1103515245 x + 12345) mod 2 to the 31; floor(x / 64) mod m.");
        for (int draw = 0; draw < 100; draw += 33) {
            int seed = 0;
            while (next(seed) / 64 % 100 != draw) {
                seed++;
            }
            for (int crowd = Math.max(0, draw - 1); crowd <= Math.min(100, draw + 2); crowd++) {
                ShrugHills x = hills(ONE + "crowd " + crowd + ";");
                x.seed(seed);
                s.due("a draw of " + draw + " by crowd " + crowd, x.chance(1), draw < crowd ? 1 : 0);
            }
        }
    }

    /** Ten days with a crowd, held against what is drawn here; a list of one row, asked behind each draw. */
    private static void crowdDays(int seed, int crowd, int people, int topics) {
        StringBuilder text = new StringBuilder("plain 7 by 7;lifts 0;crowd " + crowd + ";");
        for (int k = 0; k < topics; k++) {
            text.append("topic ").append((char) ('a' + k)).append(';');
        }
        for (int k = 0; k < people; k++) {
            text.append("person ").append((char) ('p' + k)).append(" at ").append(k).append(" 3 tired 0;");
        }
        boolean list = people > 0 && topics > 0;
        ShrugHills x = hills(text + (list ? "asks p of a;" : ""));
        x.seed(seed);
        long drawn = seed;
        List<int[]> kept = new ArrayList<>();
        int crowds = 0;
        for (int day = 0; day < 10; day++) {
            drawn = next(drawn);
            if (drawn / 64 % 100 < crowd && list) {
                drawn = next(drawn);
                int person = (int) (drawn / 64 % people);
                drawn = next(drawn);
                kept.add(new int[] {day, person, (int) (drawn / 64 % topics), 0});
                crowds++;
            }
            if (list) {
                kept.add(new int[] {day, 0, 0, 0});
            }
        }
        s.due("shrugs of crowds", x.chance(10), crowds);
        s.due("kept", x.has(7), kept.size());
        for (int k = 0; k < kept.size() * 4; k++) {
            s.due("kept " + k / 4, x.kept(k / 4, k % 4), kept.get(k / 4)[k % 4]);
        }
        // The seed that is left is seen by another plain.
        ShrugHills twin = hills(Twins.PLAIN);
        twin.seed((int) drawn);
        Tape.put(x, Twins.PLAIN);
        x.plain();
        s.due("so many draws", x.chance(20), twin.chance(20));
        s.due("so many draws", Arrays.equals(heights(x), heights(twin)), true);
    }

    // ---- III: plans, ways, water

    /** Lands on which what is looked for is found here by trying all there is. */
    private static final String[] LANDS = {
        "plain 3 by 3;topic t;topic u;person p at 1 1 tired 0;person q at 0 0 tired 4;knows q of t;asks p of t;asks q of u;crowd 100;",
        "plain 4 by 3;topic t;topic u;person p at 1 1 tired 0;person q at 2 2 tired 3;person r at 2 0 tired 1;asks p of t;"
            + "asks q of u;asks r of t;asks q of t;lifts 9-tired-topic*4;high 1 1 60;high 2 2 65;high 0 0 40;high 3 1 1;crowd 50;",
        "plain 3 by 4;topic t;topic u;person p at 1 0 tired 0;person q at 1 1 tired 0;person r at 1 2 tired 0;asks p of t;asks q of u;"
            + "asks r of u;asks p of u;lifts side/12;tires 3*topic;holds tired>2 and topic=1;high 1 1 70;high 0 3 75;high 2 0 98;",
        "plain 3 by 3;topic t;topic u;person p at 0 2 tired 9;person q at 2 0 tired 9;asks q of t;asks p of u;high 0 0 0;high 1 0 0;"
            + "high 2 0 0;high 0 1 0;high 1 1 9;high 2 1 0;high 0 2 0;high 1 2 0;high 2 2 5;lifts 1+topic;",
        "plain 3 by 3;topic t;topic u;person p at 1 1 tired 0;person q at 1 0 tired 0;high 1 1 60;high 2 2 65;asks p of t;asks q of t;"};

    private static void ahead() {
        s.terms("III", 13);
        s.says("AHEAD are DAYS as they come from now on without DRAWS (60 at most, not beyond DAY 999).");
        for (String land : LANDS) {
            int[] counts = {0, 1, 2, 3, 17, 59, 60};
            for (int n : counts) {
                ShrugHills x = hills(land);
                ShrugHills behind = hills(land);
                if (n > 0) {
                    behind.days(n);
                }
                int[] want = heights(behind);
                for (int cell = 0; cell < want.length; cell++) {
                    s.due("behind " + n, x.later(cell % x.has(0), cell / x.has(0), n), want[cell]);
                }
                for (int p = 0; p < x.has(3); p++) {
                    s.due("tired behind " + n, x.tired(p, n), behind.person(p, 2));
                }
                s.due("nothing is done", x.has(5) + x.has(7) + x.has(9), 0);
            }
            s.due("61", hills(land).later(0, 0, 61), NONE);
            ShrugHills late = atDay(hills(land), 940);
            s.due("day 999", late.later(0, 0, 59) != NONE, true);
            s.due("day 1000", late.later(0, 0, 60), NONE);
        }
        for (String land : LANDS) {
            plans(land);
        }
        ways();
        ponds();
    }

    /** The heights behind each row of up to three askings, the shortest ones first, each person by person, topic by topic. */
    private static void plans(String land) {
        s.terms("III", 16);
        s.says("A PLAN for a CELL that must come up to a height, and a CELL that must stay as it is now, is a row of askings (3 at "
                + "most; each a PERSON, a TOPIC; now, one after the other) behind which it is so: of the fewest, of like ones the "
                + "first row (PERSON by PERSON, TOPIC by TOPIC).");
        int topics = hills(land).has(2);
        int people = hills(land).has(3);
        List<int[]> rows = new ArrayList<>();
        rows.add(new int[0]);
        for (int k = 0; k < rows.size(); k++) {
            for (int one = 0; one < people * topics && rows.get(k).length < 3; one++) {
                int[] longer = Arrays.copyOf(rows.get(k), rows.get(k).length + 1);
                longer[longer.length - 1] = one / topics * 8 + one % topics;
                rows.add(longer);
            }
        }
        List<int[]> behind = new ArrayList<>();
        for (int[] row : rows) {
            ShrugHills y = hills(land);
            for (int one : row) {
                y.asks(one / 8, one % 8);
            }
            behind.add(heights(y));
        }
        int[] now = behind.get(0);
        for (int up = 0; up < now.length; up++) {
            for (int stay = 0; stay < now.length; stay++) {
                ShrugHills y = hills(land);
                for (int more = 0; more <= 28; more += up % 2 == 0 ? 1 : 9) {
                    int height = Math.min(99, now[up] + more);
                    planIs(y, up, height, stay, rows, behind);
                }
            }
        }
    }

    private static void planIs(ShrugHills x, int up, int height, int stay, List<int[]> rows, List<int[]> behind) {
        int[] found = null;
        for (int k = 0; k < rows.size() && found == null; k++) {
            if (behind.get(k)[up] >= height && behind.get(k)[stay] == behind.get(0)[stay]) {
                found = rows.get(k);
            }
        }
        String what = "plan " + up + " to " + height + ", " + stay + " stays";
        int upNumber = number(x, up);
        int stayNumber = number(x, stay);
        s.due(what, x.plan(upNumber, height, stayNumber, NONE), found == null ? NONE : found.length);
        for (int k = 0; found != null && k < found.length; k++) {
            s.due(what + ", asking " + k, x.plan(upNumber, height, stayNumber, k), found[k]);
        }
    }

    /** The least cost by trying each cell between any two. */
    private static int cost(int[] high, int columns, int from, int to) {
        int cells = high.length;
        int[][] costs = new int[cells][cells];
        for (int a = 0; a < cells; a++) {
            for (int b = 0; b < cells; b++) {
                int apart = Math.abs(a % columns - b % columns) + Math.abs(a / columns - b / columns);
                costs[a][b] = a == b ? 0 : apart == 1 ? 1 + Math.abs(high[a] - high[b]) : 1000000;
            }
        }
        for (int c = 0; c < cells; c++) {
            for (int a = 0; a < cells; a++) {
                for (int b = 0; b < cells; b++) {
                    costs[a][b] = Math.min(costs[a][b], costs[a][c] + costs[c][b]);
                }
            }
        }
        return costs[from][to];
    }

    private static final String WALLS = "plain 7 by 7;" + wall(1, 0) + wall(3, 1) + wall(5, 0);

    /** All but one of a column are 99 high. */
    private static String wall(int column, int from) {
        StringBuilder text = new StringBuilder();
        for (int row = from; row < from + 6; row++) {
            text.append("high ").append(column).append(' ').append(row).append(" 99;");
        }
        return text.toString();
    }

    private static void ways() {
        s.terms("III", 17);
        s.says("A STEP from a CELL to one next to it (a side in common) costs 1 and as much as the heights differ; the WAY between "
                + "two CELLS is the least cost.");
        List<String> lands = new ArrayList<>(Arrays.asList(LANDS));
        lands.add(WALLS);
        lands.add("plain 3 by 7;high 1 1 99;high 1 2 0;high 0 2 60;high 2 2 70;");
        for (String land : lands) {
            int cells = heights(hills(land)).length;
            for (int from = 0; from < cells; from += 1 + from % 3) {
                ShrugHills x = hills(land);
                x.days(7);
                int[] high = heights(x);
                for (int to = 0; to < cells; to += 1 + to % 2) {
                    s.due("from " + from + " to " + to, x.way(number(x, from), number(x, to)), cost(high, x.has(0), from, to));
                }
            }
        }
        s.due("around all walls", hills(WALLS).way(0, 6), 30);
        s.due("no step aslant", hills(BARE).way(0, 9), 2);
        s.due("no step around the edge", hills("plain 7 by 7;").way(6, 8), 7);
    }

    private static void ponds() {
        s.terms("III", 18);
        s.says("WATER in a CELL runs to the lowest of those next to it, if that is lower; of like ones to the first, row by row; and "
                + "so on, till none is lower: its POND.");
        ShrugHills four = hills(BARE + "high 1 1 60;high 1 0 40;high 0 1 40;high 2 1 40;high 1 2 40;");
        s.due("up is the first", four.pond(1, 1), 1);
        ShrugHills three = hills(BARE + "high 1 1 60;high 0 1 40;high 2 1 40;high 1 2 40;");
        s.due("left is the first", three.pond(1, 1), 8);
        ShrugHills two = hills(BARE + "high 1 1 60;high 2 1 40;high 1 2 40;");
        s.due("right is the first", two.pond(1, 1), 10);
        ShrugHills one = hills(BARE + "high 1 1 60;high 1 2 40;");
        s.due("down is lower", one.pond(1, 1), 17);
        s.due("the lowest, not the first", hills(BARE + "high 1 1 60;high 1 0 40;high 1 2 39;").pond(1, 1), 17);
        s.due("a like one is not lower", hills(BARE).pond(1, 1), 9);
        s.due("lower by one", hills(BARE + "high 1 2 49;").pond(1, 1), 17);
        s.due("not around the edge", hills(BARE + "high 0 1 0;high 1 0 51;high 2 0 50;").pond(2, 0), 2);
        // Down a winding way between walls, from 0 0 to 6 0.
        StringBuilder down = new StringBuilder(WALLS);
        int high = 90;
        for (int column = 0; column < 7; column++) {
            for (int k = 0; k < 7; k++) {
                int row = column % 4 == 0 ? k : column % 4 == 2 ? 6 - k : column % 4 == 1 ? 6 : 0;
                if (k == 0 || column % 2 == 0) {
                    down.append("high ").append(column).append(' ').append(row).append(' ').append(high--).append(';');
                }
            }
        }
        s.due("a long way", hills(down.toString()).pond(0, 0), 6);
    }

    // ---- III: ways that are kept, rest

    /** The land behind n days on which those of a set have been taught all. */
    private static ShrugHills silent(String land, int set, int n) {
        ShrugHills x = hills(land);
        for (int p = 0; p < x.has(3); p++) {
            for (int t = 0; t < x.has(2) && (set >> p & 1) == 1; t++) {
                x.teach(p, t, 1);
            }
        }
        x.days(n);
        return x;
    }

    /** All sets, the fewest first, of like ones those of the least bits. */
    private static List<Integer> sets(int people) {
        List<Integer> all = new ArrayList<>();
        for (int set = 0; set < 1 << people; set++) {
            all.add(set);
        }
        all.sort((a, b) -> Integer.bitCount(a) != Integer.bitCount(b) ? Integer.bitCount(a) - Integer.bitCount(b) : a - b);
        return all;
    }

    private static void keptAndRest() {
        s.terms("III", 19);
        s.says("A WAY is KEPT by a set of PEOPLE, if, none of these SHRUGGING, its cost behind n DAYS is no more than now: the "
                + "fewest, of like ones the least bits.");
        int[] counts = {1, 2, 3, 5, 19, 20};
        for (String land : LANDS) {
            for (int n : counts) {
                ShrugHills x = hills(land);
                int columns = x.has(0);
                int[] now = heights(x);
                List<Integer> sets = sets(x.has(3));
                List<int[]> behind = new ArrayList<>();
                for (int set : sets) {
                    behind.add(heights(silent(land, set, n)));
                }
                for (int from = 0; from < now.length; from++) {
                    int to = (from * 5 + n) % now.length;
                    int most = cost(now, columns, from, to);
                    int want = NONE;
                    for (int k = 0; k < sets.size() && want == NONE; k++) {
                        want = cost(behind.get(k), columns, from, to) <= most ? sets.get(k) : NONE;
                    }
                    s.due("from " + from + " to " + to + ", " + n + " days", x.keeps(number(x, from), number(x, to), n), want);
                }
                s.due("nothing is done", x.has(5) + x.has(7) + x.has(9), 0);
            }
        }
        // Both lift 1 0; to come from there down to 1 1 costs as much as to go up ahead of it, if one of them does not.
        String like = "plain 3 by 3;topic t;person p at 0 0 tired 0;person q at 2 0 tired 0;asks p of t;asks q of t;high 1 0 49;";
        s.due("as much as now", hills(like + "lifts 1;").keeps(1, 9, 2), 0);
        s.due("of two who each are enough the first", hills(like + "lifts 2;").keeps(1, 9, 2), 1);
        s.due("both", hills(like + "lifts 3;").keeps(1, 9, 2), 3);
        rest();
    }

    private static void rest() {
        s.terms("III", 20);
        s.says("At REST is a set of PEOPLE who keep silent (are as if they knew all), of whom none, in it or not, would have his own "
                + "CELL higher behind n DAYS if he alone did otherwise: of the fewest, of like ones the least bits.");
        int[] counts = {1, 2, 3, 4, 7, 19, 20};
        int some = 0;
        int two = 0;
        List<String> lands = new ArrayList<>(Arrays.asList(LANDS));
        lands.add("plain 3 by 3;topic t;person p at 2 1 tired 0;person q at 2 2 tired 0;person r at 2 0 tired 0;person v at 0 2 tired 0;"
                + "high 1 1 47;asks p of t;asks v of t;asks q of t;");
        lands.add("plain 3 by 3;topic t;person p at 0 0 tired 0;person q at 0 2 tired 0;person r at 1 0 tired 0;high 0 2 58;high 2 2 58;"
                + "asks r of t;asks p of t;asks q of t;");
        for (String land : lands) {
            ShrugHills x = hills(land);
            for (int n : counts) {
                int people = x.has(3);
                int[][] own = new int[1 << people][people];
                for (int set = 0; set < 1 << people; set++) {
                    ShrugHills y = silent(land, set, n);
                    for (int p = 0; p < people; p++) {
                        own[set][p] = y.height(y.person(p, 0), y.person(p, 1));
                    }
                }
                int want = NONE;
                for (int set : sets(people)) {
                    boolean rests = want == NONE;
                    for (int p = 0; p < people; p++) {
                        rests &= own[set ^ 1 << p][p] <= own[set][p];
                    }
                    want = rests ? set : want;
                }
                s.due(n + " days", x.rest(n), want);
                some += want > 0 ? 1 : 0;
                two += Integer.bitCount(Math.max(0, want)) > 1 ? 1 : 0;
            }
            s.due("nothing is done", x.has(5) + x.has(7) + x.has(9), 0);
        }
        s.due("some keep silent", some > 0, true);
        s.due("two keep silent", two > 0, true);
    }

    // ---- III: what is seen, what tells

    /** The heights behind 0 to 30 days, if one is asked a topic now. */
    private static int[][] behindAsking(String land, int person, int topic) {
        int[][] high = new int[31][];
        for (int n = 0; n <= 30; n++) {
            ShrugHills x = hills(land);
            x.asks(person, topic);
            if (n > 0) {
                x.days(n);
            }
            high[n] = heights(x);
        }
        return high;
    }

    private static void seenAndTelling() {
        for (String land : LANDS) {
            ShrugHills x = hills(land);
            for (int topic = 0; topic < x.has(2); topic++) {
                int[][][] behind = new int[x.has(3)][][];
                for (int p = 0; p < behind.length; p++) {
                    behind[p] = behindAsking(land, p, topic);
                }
                seen(hills(land), topic, behind);
                telling(hills(land), topic, behind);
            }
        }
    }

    private static void seen(ShrugHills x, int topic, int[][][] behind) {
        s.terms("III", 22);
        s.says("SEEN are rows of DAYS AHEAD (0 .. 30; 0 is now), column, row, height: askings of one TOPIC now, by which all is so, "
                + "of whom: PEOPLE.");
        int columns = x.has(0);
        int cells = columns * x.has(1);
        for (int k = 0; k < 60; k++) {
            // Rows that are so by one of them, the last one higher by 1 in each fourth try.
            int[] rows = new int[4 * (1 + k % 3)];
            for (int at = 0; at < rows.length; at += 4) {
                int n = k == 0 ? 0 : k == 1 ? 30 : (k * 7 + at) % 31;
                int cell = (k * 5 + at) % cells;
                rows[at] = n;
                rows[at + 1] = cell % columns;
                rows[at + 2] = cell / columns;
                int height = behind[k % behind.length][n][cell] + (k % 4 == 3 && at + 4 == rows.length ? 1 : 0);
                rows[at + 3] = Math.min(99, height);
            }
            int want = 0;
            for (int p = 0; p < behind.length; p++) {
                boolean all = true;
                for (int at = 0; at < rows.length; at += 4) {
                    all &= behind[p][rows[at]][rows[at + 2] * columns + rows[at + 1]] == rows[at + 3];
                }
                want |= all ? 1 << p : 0;
            }
            Tape.put(x, rows);
            s.due("see", x.see(), rows.length / 4);
            s.due("who by " + Arrays.toString(rows), x.who(topic), want);
        }
        int[] days = {30, 31};
        for (int n : days) {
            Tape.put(x, n, 0, 0, 50);
            s.due("day " + n, x.see(), n == 30 ? 1 : NONE);
        }
    }

    /** By those whom the row that is seen leaves. */
    private static void telling(ShrugHills x, int topic, int[][][] behind) {
        s.terms("III", 23);
        s.says("TELLING is the DAY AHEAD (0 .. 30), the CELL by whose height, whatever it is, the most of these left are fewest; of "
                + "like ones the first, DAY by DAY, row by row.");
        for (int k = 0; k < 8; k++) {
            int cell = k * 3 % (x.has(0) * x.has(1));
            Tape.put(x, 0, cell % x.has(0), cell / x.has(0), behind[k % behind.length][0][cell]);
            x.see();
            int people = x.who(topic);
            int[] want = {NONE, NONE, 99};
            for (int n = 0; n <= 30; n++) {
                for (int c = 0; c < behind[0][0].length; c++) {
                    int most = 0;
                    int[] left = new int[100];
                    for (int p = 0; p < behind.length; p++) {
                        most = (people >> p & 1) == 1 ? Math.max(most, ++left[behind[p][n][c]]) : most;
                    }
                    want = most < want[2] ? new int[] {n, number(x, c), most} : want;
                }
            }
            for (int what = 0; what < 3; what++) {
                s.due("telling " + what, x.tells(topic, what), want[what]);
            }
        }
        Tape.put(x, 0, 0, 0, 99);
        x.see();
        s.due("none fits", x.who(topic) * 10 + x.tells(topic, 2), NONE);
    }

    // ---- IV: questions

    /** Five topics, seven people; g, the last, knows all but the first; it is day 2. */
    private static ShrugHills seven() {
        ShrugHills x = hills("plain 7 by 7;topic ta;topic tb;topic tc;topic td;topic te;person a at 0 0 tired 0;person b at 1 1 tired 1;"
                + "person c at 2 2 tired 2;person d at 3 3 tired 3;person e at 4 4 tired 4;person f at 6 5 tired 5;"
                + "person g at 5 6 tired 9;knows g of tb;knows g of tc;knows g of td;knows g of te;high 5 6 99;high 0 0 0;holds tired=4;");
        x.days(2);
        return x;
    }

    private static void answers(String question, long want) {
        ShrugHills x = seven();
        s.due(question, ask(x, question), want);
        s.due("no fault in " + question, x.fault(0), 0);
    }

    private static void questions() {
        s.terms("IV", 32);
        s.says("A QUESTION is a text, of all PEOPLE: first TEST, last TEST (the first, the last PERSON for whom it holds), often TEST "
                + "(for how many), total SUM (of all together), most SUM, least SUM (the greatest, the least of all; 0 without "
                + "PEOPLE).");
        answers("first all", 0);
        answers("last all", 6);
        answers("often all", 7);
        answers("first tired>8", 6);
        answers("last tired<1", 0);
        answers("first tired>2 and tired<5", 3);
        answers("last tired>2 and tired<5", 4);
        answers("often tired>2 and tired<5", 2);
        answers("first tired>9", NONE);
        answers("last tired>9", NONE);
        answers("often tired>9", 0);
        answers("total tired", 24);
        answers("most tired", 9);
        answers("least tired", 0);
        answers("least tired+1", 1);
        answers("least 9999-tired", 9990);
        answers("most 0-1-tired", -1);
        answers("least 0-tired", -9);
        answers("total 0-9999*9999", -7000000);
        answers("most 9999*9999", 1000000);
        ShrugHills none = hills(BARE);
        String[] heads = {"first all", "last all", "often all", "total 5", "most 5", "least 5"};
        for (int k = 0; k < 6; k++) {
            s.due(heads[k] + " without people", ask(none, heads[k]), k < 2 ? NONE : 0);
        }
        parts();
    }

    private static void parts() {
        s.says("TEST, SUM as in I, but PART: N; number; column; row; tired; height; known; day; knows PART; lifts PART; ( SUM ) ; min "
                + "( SUM , SUM ) ; max ( SUM , SUM ) .");
        answers("total 9999", 69993);
        answers("total number", 21);
        answers("total column*10", 210);
        answers("total row*10+1", 217);
        answers("total height", 99 + 5 * 50);
        answers("total known", 4);
        answers("total day", 14);
        answers("most (number+1)*2", 14);
        answers("least min(number,3)-max(number,3)", -3);
        answers("total knows 1+lifts 0*0", 1);
        answers("total knows lifts 4", 0);
        s.says("(The PERSON's number, place; 1 if he knows the TOPIC of that number, else 0; how much would be lifted in all, if he "
                + "were asked it now: 0 of those that there are not.)");
        answers("last number=6 and column=5 and row=6", 6);
        answers("first column=6 and row=5 and number=5", 5);
        for (int topic = 0; topic < 5; topic++) {
            answers("total knows " + topic, topic == 0 ? 0 : 1);
            answers("last knows " + topic + "=1", topic == 0 ? NONE : 6);
            // a and f lift one side, e (tired by 4) holds it, g answers but for the first topic.
            answers("total lifts " + topic, 3 + 6 + 6 + 6 + 3 + (topic == 0 ? 6 : 0));
            answers("first lifts " + topic + "=0", 4);
            answers("last lifts " + topic + "=6", topic == 0 ? 6 : 3);
        }
        String[] none = {"5", "6", "31", "32", "63", "64", "9999", "(0-1)", "(0-2)", "(0-32)", "(9999*9999)", "(0-9999*9999)"};
        for (String topic : none) {
            answers("total knows " + topic, 0);
            answers("total lifts " + topic, 0);
        }
        ShrugHills two = hills("plain 3 by 3;topic t;topic u;person p at 1 1 tired 0;knows p of u;");
        int[][] want = {{0, 6}, {1, 0}, {0, 0}};
        for (int topic = 0; topic < 3; topic++) {
            s.due("knows", ask(two, "total knows " + topic), want[topic][0]);
            s.due("lifts", ask(two, "total lifts " + topic), want[topic][1]);
        }
        s.due("nothing is moved", two.has(6) * 10 + two.has(7) + two.has(9), 4500);
        s.due("the number of a topic by a part", ask(seven(), "total knows number"), 0);
        s.due("the number of a topic by a part", ask(seven(), "total knows (number-2)"), 1);
        s.due("knows binds ahead of *", ask(seven(), "total knows 1*4"), 4);
        s.due("knows knows", ask(seven(), "total knows knows 1"), 1);
    }

    /** As a question, the text has that fault, where "^" stands in it; without a "^" it has none. */
    private static void questionFault(int kind, String marked) {
        ShrugHills x = hills(ONE);
        s.due("the answer of " + marked, ask(x, marked.replace("^", "")) == NOTHING, kind != 0);
        s.due("the fault of " + marked, x.fault(0), kind);
        s.due("its place in " + marked, x.fault(1), marked.indexOf('^'));
    }

    private static void questionFaults() {
        s.says("Its FAULTS: 1 as in I (an unknown word at its first byte; what stands behind it, too)");
        String[] ones = {"^", "  ^", "^x", "^tired", "^plain 3 by 3;", "^firsts all", "^5", "^;", "total^", "total ^", "total^5",
            "total ^x", "total ^xyzxyzxyz", "total ^p", "total ^t", "total ^topic", "total ^side", "total ^all", "total ^not 1",
            "total ^[1]", "total ^tires", "total ^holds", "total ^crowd", "total ^plain", "total ^first", "total 1^;", "total 1 ^1",
            "total 1^x", "total 1 ^x", "total 1 ^total 1", "total 1^=1", "total 1^]", "total (1^", "total (1^]", "total min^1",
            "total min(1^)", "total min(1,2^,3)", "total knows^", "total knows^1", "total knows ^all", "total lifts ^-1",
            "total 1234^5", "total knows 0000^0", "total 1+^", "total 1+^*", "first ^", "first 1^", "first 1=^", "first 1=1^=1",
            "first all ^all", "first all^1", "first all and^", "first all or ^or", "first not^", "first [all^", "first [all^)",
            "first (1^=1)", "first all^;", "total 1^~", "total ^~1", "total 1 ^\t"};
        for (String one : ones) {
            questionFault(1, one);
        }
        String[] fine = {"total 1", " total\n1 ", "total(1)", "first[all]", "first not[all]", "often 1<2 or 1<2",
            "most knows(1)", "least lifts(1)", "total knows lifts 1", "total 0001"};
        for (String text : fine) {
            questionFault(0, text);
        }
        for (String word : OWN_WORDS) {
            if (!Arrays.asList("number", "column", "row", "tired", "height", "known", "day").contains(word)) {
                boolean more = Arrays.asList("knows", "lifts", "min", "max").contains(word);
                questionFault(1, more ? "total " + word + "^" : "total ^" + word);
            } else {
                questionFault(0, "total " + word);
            }
        }
        for (String word : OWN_WORDS) {
            questionFault(1, "total ^" + word + "x");
            questionFault(1, "total ^" + word + "xx");
            questionFault(1, "first all ^" + word + "x");
        }
        String[] heads = {"first", "last", "often", "total", "most", "least"};
        for (String head : heads) {
            questionFault(1, "^" + head + "x 1=1");
            questionFault(1, "^" + head + "xx 1=1");
            questionFault(1, "^" + head + "xxx 1=1");
            questionFault(1, "^" + head.substring(1) + " 1=1");
            questionFault(1, "total ^" + head);
        }
        for (int b = 0; b < 256; b++) {
            if (b != 10 && b != 32 && b != '^' && !isSign((char) b) && ";+-*/()[],<>=".indexOf(b) < 0) {
                String[] places = {"^~", "total ^~", "total 1^~", "first ^~", "first 1=^~", "total knows ^~", "total min^~"};
                for (String place : places) {
                    questionFault(1, place.replace('~', (char) b));
                }
            }
        }
        s.says("4 the 7th of ( [ not knows lifts that is open at once (not until its FACT, knows, lifts until its PART ends), at it.");
        String[] openers = {"(", "knows ", "lifts ", "min(", "max("};
        for (String first : openers) {
            for (String last : openers) {
                String open = first.repeat(5) + last;
                questionFault(0, "total " + open + "1" + closers(open, ",1"));
                for (String seventh : openers) {
                    String marked = seventh.startsWith("m") ? seventh.replace("(", "^(") : "^" + seventh;
                    questionFault(4, "total " + open + marked + "1" + closers(open + seventh, ",1"));
                }
            }
        }
        questionFault(0, "first not [not [not knows 1=1]]");
        questionFault(4, "first not [not [not [^knows 1=1]]]");
        questionFault(4, "first not [not [not [^(1)=1]]]");
        questionFault(4, "first not [not [not [^not all]]]");
        questionFault(4, "first not [not [not [^[all]]]]");
        questionFault(0, "first not not not not not 1=knows 1+lifts 1+(1)+knows 1");
        questionFault(4, "first not not not not not not 1=^knows 1");
        questionFault(4, "first not not not not not 1=knows 1+knows ^lifts 1");
        questionFault(0, "total " + "knows 1+lifts 1*".repeat(20) + "knows (((((1)))))");
        questionFault(0, "total knows knows knows knows knows knows 1+((((((1))))))");
        questionFault(4, "total knows (((((^(1))))))");
        questionFault(0, "first knows 1=1 and not not not not not not all");
    }

    // ---- IV: images

    private static void images() {
        s.terms("IV", 33);
        s.says("AN IMAGE: DAY (two bytes, the higher first); for each CELL, row by row, its height; for each PERSON column, row, how "
                + "tired, the TOPICS that he knows, as bits; last a byte: all ahead from 227 on, c = (3 c + it) mod 251.");
        int[] days = {0, 1, 255, 256, 257, 511, 512, 768, 998, 999};
        for (int day : days) {
            ShrugHills x = atDay(hills("plain 4 by 3;topic t;topic u;person p at 3 2 tired 9;person q at 1 0 tired 0;knows p of t;"
                    + "knows p of u;knows q of u;high 0 0 0;high 3 2 99;high 1 0 7;high 0 1 8;"), day);
            int[] want = {day / 256, day % 256, 0, 7, 50, 50, 8, 50, 50, 50, 50, 50, 50, 99, 3, 2, 9, 3, 1, 0, 0, 2};
            s.due("bytes", x.image(), want.length + 1);
            int check = 227;
            for (int k = 0; k < want.length; k++) {
                s.due("byte " + k + " on day " + day, x.octet(k), want[k]);
                check = (3 * check + want[k]) % 251;
            }
            s.due("the last byte on day " + day, x.octet(want.length), check);
            s.due("none behind it", x.octet(want.length + 1), NONE);
        }
        // Without a plain: the two bytes of day 0, then 3 times (3 times 227 modulo 251, 179) modulo 251.
        ShrugHills idle = new ShrugHills();
        s.due("bytes without a plain", idle.image(), 3);
        s.due("its last byte", idle.octet(2), 35);
    }
}
