import java.util.ArrayList;
import java.util.List;
import java.util.function.Consumer;

/** Two objects with the same calls behind them, of which one is then called what must be refused: all stays. */
final class Twins {
    /** p, asked t, lifts both beside him by 3; q knows t; half the days have a crowd. */
    static final String PLAIN = "plain 3 by 3;topic t;topic u;person p at 1 1 tired 0;person q at 0 0 tired 4;"
            + "knows q of t;asks p of t;asks q of u;crowd 50;";

    private Twins() {
    }

    /** A plain on which things have been done, an image, and a question that still lies on the tape. */
    static ShrugHills busy() {
        ShrugHills x = new ShrugHills();
        Tape.put(x, PLAIN);
        x.plain();
        x.seed(77);
        x.days(2);
        x.chance(1);
        x.asks(1, 0);
        x.teach(0, 1, 1);
        Tape.put(x, 0, 2, 2, 49, 1, 2, 2, 49);
        x.see();
        x.image();
        x.go(0, 2, 2);
        Tape.put(x, "total tired*10+height");
        return x;
    }

    static ShrugHills busyWithoutTape() {
        ShrugHills x = busy();
        x.end(0);
        return x;
    }

    /** No plain, an image of nothing, and what would be a question on the tape. */
    static ShrugHills idle() {
        ShrugHills x = new ShrugHills();
        x.seed(77);
        x.image();
        Tape.put(x, "total tired*10+height");
        return x;
    }

    /** The call is refused, counted as told, on a busy object; the tape stays. */
    static void refused(Sentences s, String what, int kind, Consumer<ShrugHills> call) {
        refused(s, what, kind, busy(), busy(), call);
    }

    /** The same on an object without a plain. */
    static void refusedIdle(Sentences s, String what, int kind, Consumer<ShrugHills> call) {
        refused(s, what, kind, idle(), idle(), call);
    }

    /** The same on two that are alike. */
    static void refused(Sentences s, String what, int kind, ShrugHills x, ShrugHills twin, Consumer<ShrugHills> call) {
        call.accept(x);
        s.due(what + " is counted", x.status(kind), twin.status(kind) + 1);
        alike(s, "behind " + what, x, twin, kind, true);
    }

    /** The call takes the tape with these bytes, is refused, counted as told; all else stays. */
    static void refusedTape(Sentences s, String what, int kind, boolean plain, int[] bytes, Consumer<ShrugHills> call) {
        ShrugHills x = plain ? busy() : idle();
        ShrugHills twin = plain ? busy() : idle();
        x.end(0);
        Tape.put(x, bytes);
        call.accept(x);
        s.due(what + " is counted", x.status(kind), twin.status(kind) + 1);
        twin.end(0);
        // A plain's fault is told, so it may differ.
        alike(s, "behind " + what, x, twin, kind, kind != 1);
    }

    /** All that can be seen of them is alike, but for what was refused of one kind. */
    static void alike(Sentences s, String what, ShrugHills x, ShrugHills twin, int but, boolean faults) {
        same(s, what, sight(x), sight(twin));
        for (int k = 0; k < 6; k++) {
            if (k != but) {
                s.due(what + " status " + k, x.status(k), twin.status(k));
            }
        }
        for (int k = 0; k < 2 && faults; k++) {
            s.due(what + " fault " + k, x.fault(k), twin.fault(k));
        }
        int tape = x.feed(1, 2, 3, 4, 5);
        s.due(what + " bytes on the tape", tape, twin.feed(1, 2, 3, 4, 5));
        x.end(tape - 20);
        twin.end(tape - 20);
        s.due(what + " the tape's answer", x.ask(), twin.ask());
        s.due(what + " by the seed", x.chance(3), twin.chance(3));
        same(s, what + " by the seed", sight(x), sight(twin));
        boolean more = true;
        for (int k = 0; k < 21 && more; k++) {
            more = x.undo();
            s.due(what + " undone", more, twin.undo());
            if (more) {
                same(s, what + " undone", octets(x, x.image()), octets(twin, twin.image()));
            }
        }
    }

    static void same(Sentences s, String what, long[] got, long[] want) {
        s.due(what + ", how much is seen", got.length, want.length);
        for (int k = 0; k < got.length && k < want.length; k++) {
            s.due(what + ", number " + k + " of what is seen", got[k], want[k]);
        }
    }

    /** The first n bytes of the latest image. */
    private static long[] octets(ShrugHills x, int n) {
        long[] bytes = new long[n];
        for (int k = 0; k < n; k++) {
            bytes[k] = x.octet(k);
        }
        return bytes;
    }

    private static long[] row(List<Long> seen) {
        return seen.stream().mapToLong(Long::longValue).toArray();
    }

    /** What the calls tell that change nothing; few enough of them that an object is looked at twice. */
    static long[] sight(ShrugHills x) {
        List<Long> seen = new ArrayList<>();
        int[] has = new int[10];
        for (int what = 0; what < 10; what++) {
            has[what] = x.has(what);
            seen.add((long) has[what]);
        }
        for (int cell = 0; cell < has[0] * has[1]; cell++) {
            seen.add((long) x.height(cell % has[0], cell / has[0]));
        }
        for (int k = 0; k < has[7] * 4; k++) {
            seen.add((long) x.kept(k / 4, k % 4));
        }
        for (int k = 0; k < has[4] * 2; k++) {
            seen.add((long) x.list(k / 2, k % 2));
        }
        for (int person = 0; person < has[3]; person++) {
            seen.add((long) x.letter(1, person, 0));
            for (int what = 0; what < 4; what++) {
                seen.add((long) x.person(person, what));
            }
        }
        for (int topic = 0; topic < has[2]; topic++) {
            seen.add((long) x.letter(0, topic, 0));
            seen.add((long) x.who(topic));
            seen.add((long) x.tells(topic, 1));
        }
        // As many as an image of this plain has, and one more.
        for (int k = 0; k < 4 + has[0] * has[1] + 4 * has[3]; k++) {
            seen.add((long) x.octet(k));
        }
        return row(seen);
    }
}
