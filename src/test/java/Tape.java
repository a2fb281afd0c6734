/** Texts and bytes as calls of feed() and end(). */
final class Tape {
    private Tape() {
    }

    static int[] bytes(String text) {
        int[] bytes = new int[text.length()];
        for (int i = 0; i < bytes.length; i++) {
            bytes[i] = text.charAt(i);
        }
        return bytes;
    }

    /** The numbers of the feed() calls, five each, blanks behind the last byte. */
    static int[][] calls(int... bytes) {
        int[][] calls = new int[(bytes.length + 19) / 20][5];
        for (int i = 0; i < calls.length * 20; i++) {
            int b = i < bytes.length ? bytes[i] : 32;
            calls[i / 20][i % 20 / 4] |= b << 24 - 8 * (i % 4);
        }
        return calls;
    }

    /** The tape, empty till now, has these bytes. */
    static void put(ShrugHills x, int... bytes) {
        for (int[] c : calls(bytes)) {
            x.feed(c[0], c[1], c[2], c[3], c[4]);
        }
        x.end(bytes.length);
    }

    static void put(ShrugHills x, String text) {
        put(x, bytes(text));
    }
}
