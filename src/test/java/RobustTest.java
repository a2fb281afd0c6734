import com.sun.management.ThreadMXBean;
import java.lang.management.ManagementFactory;
import java.util.Random;

/** Any arguments in any state: no call throws, none makes objects but the constructor. */
public final class RobustTest {
    private static final int RUNS = 3000;
    private static final int CALLS = 512;
    private static final long ROOM_OF_ONE = 400_000;
    private static final int[] EDGES = {0, 1, 2, 3, 7, 8, 9, 20, 21, 30, 31, 60, 61, 99, 100, 101, 512, 999, 1000, -1, -2,
        -8, Integer.MAX_VALUE, Integer.MIN_VALUE, Integer.MAX_VALUE - 7, Integer.MIN_VALUE + 7};
    private final Random random;
    private final ShrugHills x = new ShrugHills();

    private RobustTest(int run) {
        random = new Random(31L * run + 5);
    }

    public static void main(String[] args) {
        for (int run = 0; run < RUNS; run++) {
            RobustTest test = new RobustTest(run);
            for (int k = 0; k < CALLS; k++) {
                test.call();
            }
        }
        System.out.println("RobustTest: " + RUNS + " runs ended");
        room();
    }

    private int arg() {
        return switch (random.nextInt(4)) {
            case 0 -> EDGES[random.nextInt(EDGES.length)];
            case 1 -> random.nextInt();
            default -> random.nextInt(6);
        };
    }

    private void fill() {
        Texts texts = new Texts(random);
        String text = random.nextBoolean() ? texts.plain() : texts.question();
        Tape.put(x, random.nextInt(3) == 0 ? texts.spoiled(text) : text);
    }

    private void call() {
        switch (random.nextInt(40)) {
            case 0 -> x.feed(random.nextInt(), arg(), arg(), arg(), arg());
            case 1 -> x.end(arg());
            case 2 -> {
                fill();
                x.plain();
            }
            case 3 -> x.plain();
            case 4 -> x.fault(arg());
            case 5 -> x.has(arg());
            case 6 -> x.letter(arg(), arg(), arg());
            case 7 -> x.height(arg(), arg());
            case 8 -> x.person(arg(), arg());
            case 9 -> x.list(arg(), arg());
            case 10 -> x.would(arg(), arg());
            case 11 -> x.kept(arg(), arg());
            case 12 -> x.later(arg(), arg(), arg());
            case 13 -> x.tired(arg(), arg());
            case 14 -> x.rises(arg(), arg(), arg());
            case 15 -> x.plan(arg(), arg(), arg(), arg());
            case 16 -> x.way(arg(), arg());
            case 17 -> x.pond(arg(), arg());
            case 18 -> x.keeps(arg(), arg(), arg());
            case 19 -> x.rest(arg());
            case 20 -> x.see();
            case 21 -> x.who(arg());
            case 22 -> x.tells(arg(), arg());
            case 23 -> x.asks(arg(), arg());
            case 24 -> x.teach(arg(), arg(), arg());
            case 25 -> x.go(arg(), arg(), arg());
            case 26 -> x.ease(arg());
            case 27 -> x.days(arg());
            case 28 -> x.chance(arg());
            case 29 -> x.undo();
            case 30 -> x.seed(arg());
            case 31 -> {
                fill();
                x.ask();
            }
            case 32 -> x.ask();
            case 33 -> x.image();
            case 34 -> x.octet(arg());
            case 35 -> {
                int[] bytes = new int[x.image()];
                for (int k = 0; k < bytes.length; k++) {
                    bytes[k] = x.octet(k);
                }
                Tape.put(x, bytes);
                x.on();
            }
            case 36 -> x.on();
            case 37 -> {
                int[] bytes = new int[random.nextInt(18) * 4];
                for (int k = 0; k < bytes.length; k++) {
                    bytes[k] = random.nextInt(4);
                }
                Tape.put(x, bytes);
                x.see();
            }
            default -> x.status(arg());
        }
    }

    /** The dearest calls on a full plain, counted by the bytes that this thread asks for. */
    private static void room() {
        StringBuilder text = new StringBuilder("plain 7 by 7;topic a;topic b;topic c;topic d;topic e;");
        for (int p = 0; p < 7; p++) {
            text.append("person ").append((char) ('p' + p)).append(" at ").append(p % 3 * 2 + 1).append(' ').append(p)
                    .append(" tired 0;");
        }
        for (int k = 0; k < 12; k++) {
            text.append("asks ").append((char) ('p' + k % 7)).append(" of ").append((char) ('a' + k % 5)).append(';');
        }
        text.append("lifts 9+0*topic;tires 0;crowd 100;");
        int[][] plain = Tape.calls(Tape.bytes(text.toString()));
        int[][] question = Tape.calls(Tape.bytes("total lifts 0+lifts knows 3"));
        ThreadMXBean threads = (ThreadMXBean) ManagementFactory.getThreadMXBean();
        long id = Thread.currentThread().getId();
        dearest(plain, text.length(), question, threads, id);
        long[] bytes = dearest(plain, text.length(), question, threads, id);
        System.out.println("RobustTest: " + bytes[0] + " bytes for an object, " + bytes[1] + " for its calls");
        if (bytes[0] > ROOM_OF_ONE || bytes[1] > ROOM_OF_ONE / 10) {
            System.out.println("that is too much");
            System.exit(1);
        }
    }

    private static long[] dearest(int[][] plain, int length, int[][] question, ThreadMXBean threads, long id) {
        long before = threads.getThreadAllocatedBytes(id);
        ShrugHills x = new ShrugHills();
        long made = threads.getThreadAllocatedBytes(id);
        for (int k = 0; k < 10; k++) {
            for (int[] c : plain) {
                x.feed(c[0], c[1], c[2], c[3], c[4]);
            }
            x.end(length);
            x.plain();
            for (int[] c : question) {
                x.feed(c[0], c[1], c[2], c[3], c[4]);
            }
            x.ask();
            x.days(100);
            x.chance(100);
            x.plan(4, 51, 48, -1);
            x.keeps(0, 54, 20);
            x.rest(20);
            x.tells(0, 2);
            x.rises(0, 0, 99);
            x.image();
            x.undo();
        }
        return new long[] {made - before, threads.getThreadAllocatedBytes(id) - made};
    }
}
