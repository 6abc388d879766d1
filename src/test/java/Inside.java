import java.io.ByteArrayOutputStream;

/** What stands inside blocks of kind 2, and what comes of it. */
final class Inside {
    /** Symbols 0 and 1, a bit each. */
    static final byte[] BITS = Make.bytes(128, 0x10);

    /** Symbol 0 is 1, symbol 1 is 00, symbol 2 is 01. */
    static final byte[] THREE = Make.bytes(129, 0x21);

    /** No sequences. */
    static final byte[] NONE = Make.bytes(0);

    /** MODES: each table is one symbol. */
    static final int SINGLES = 64 + 16 + 4;

    /** MODES: each table is as it was. */
    static final int REPEATED = 192 + 48 + 12;

    static final byte[] ABC = Make.literals(Make.text("abc"));

    /** The known shares, as the document tells them. */
    static final Coder LITERAL = new Coder(6, 4, 3, 2, 2, 2, 2, 2, 2, 2, 2, 2, 2, 2, 1, 1, 1,
        2, 2, 2, 2, 2, 2, 2, 2, 2, 3, 2, 1, 1, 1, 1, 1, -1, -1, -1, -1);
    static final Coder DISTANCE = new Coder(5, 1, 1, 1, 1, 1, 1, 2, 2, 2, 1, 1, 1, 1, 1, 1, 1,
        1, 1, 1, 1, 1, 1, 1, 1, -1, -1, -1, -1, -1);
    static final Coder MATCH = new Coder(6, 1, 4, 3, 2, 2, 2, 2, 2, 2, 1, 1, 1, 1, 1, 1, 1,
        1, 1, 1, 1, 1, 1, 1, 1, 1, 1, 1, 1, 1, 1, 1, 1, 1, 1, 1, 1, 1, 1, 1, 1, 1, 1, 1, 1, 1, 1,
        -1, -1, -1, -1, -1, -1, -1);

    private Inside() {
    }

    /** A frame of LITERALS with a description, in one stream, and no sequences. */
    static byte[] one(int literals, byte[]... follow) {
        byte[] all = Make.join(follow);
        return Make.frame(Make.coded(2, 0, literals, all.length), all, NONE);
    }

    /** A frame of LITERALS with a description, in four streams, and no sequences. */
    static byte[] four(int l, int literals, byte[] description, byte[]... streams) {
        byte[] numbers = Make.join(Make.number(streams[0].length, 2), Make.number(streams[1].length, 2),
            Make.number(streams[2].length, 2));
        byte[] all = Make.join(description, numbers, Make.join(streams));
        return Make.frame(Make.coded(2, l, literals, all.length), all, NONE);
    }

    /** LITERALS and sequences whose three tables are one symbol each. */
    static byte[] singles(byte[] literals, int number, int literal, int distance, int match, long... bits) {
        return Make.join(literals, Make.bytes(number, SINGLES, literal, distance, match), Make.stream(bits));
    }

    /** A frame of the LITERALS abc and such sequences; their stream stands at INSIDE + 11. */
    static byte[] abc(int number, int literal, int distance, int match, long... bits) {
        return Make.frame(singles(ABC, number, literal, distance, match, bits));
    }

    /** LITERALS of one byte, so many times, told in four bytes. */
    static byte[] times(int b, int n) {
        return Make.join(Make.number(16L * n + 13, 3), Make.bytes(b));
    }

    /** Bytes that tell apart from where they were copied. */
    static byte[] differing(int n) {
        byte[] made = new byte[n];
        for (int k = 0; k < n; k++) {
            made[k] = (byte) (k * 31 + k / 256 * 7);
        }
        return made;
    }

    /** What comes of literals and {literal length, distance, match length}, behind other bytes. */
    static byte[] model(byte[] before, byte[] literals, int[]... all) {
        ByteArrayOutputStream made = new ByteArrayOutputStream();
        made.write(before, 0, before.length);
        int used = 0;
        for (int[] one : all) {
            made.write(literals, used, one[0]);
            used += one[0];
            for (int k = 0; k < one[2]; k++) {
                byte[] now = made.toByteArray();
                made.write(now[now.length - one[1]]);
            }
        }
        made.write(literals, used, literals.length - used);
        return made.toByteArray();
    }
}
