import java.io.ByteArrayOutputStream;
import java.math.BigInteger;
import java.nio.charset.StandardCharsets;
import java.util.Arrays;

/** Makes the parts of frames. */
final class Make {
    /** What frames begin with. */
    static final byte[] MARK = bytes(40, 181, 47, 253);

    /** A frame's four bytes, a HEAD without anything, and a WINDOW of 1024. */
    static final byte[] HEAD = bytes(40, 181, 47, 253, 0, 0);

    /** The same with a WINDOW of 2^20. */
    static final byte[] WIDE = bytes(40, 181, 47, 253, 0, 80);

    /** Where the first block of a frame with that HEAD stands, and what is in it. */
    static final int BLOCK = 6;
    static final int INSIDE = 9;

    private Make() {
    }

    static byte[] bytes(int... values) {
        byte[] made = new byte[values.length];
        for (int k = 0; k < values.length; k++) {
            made[k] = (byte) values[k];
        }
        return made;
    }

    static byte[] text(String s) {
        return s.getBytes(StandardCharsets.ISO_8859_1);
    }

    static byte[] hex(String s) {
        byte[] made = new byte[s.length() / 2];
        for (int k = 0; k < made.length; k++) {
            made[k] = (byte) Integer.parseInt(s.substring(2 * k, 2 * k + 2), 16);
        }
        return made;
    }

    static byte[] times(int b, int n) {
        byte[] made = new byte[n];
        Arrays.fill(made, (byte) b);
        return made;
    }

    static byte[] join(byte[]... parts) {
        ByteArrayOutputStream all = new ByteArrayOutputStream();
        for (byte[] part : parts) {
            all.write(part, 0, part.length);
        }
        return all.toByteArray();
    }

    /** The first n bytes. */
    static byte[] first(byte[] all, int n) {
        return Arrays.copyOf(all, n);
    }

    /** What stands behind the first n bytes. */
    static byte[] behind(byte[] all, int n) {
        return Arrays.copyOfRange(all, n, all.length);
    }

    static byte[] number(long value, int n) {
        byte[] made = new byte[n];
        for (int k = 0; k < n; k++) {
            made[k] = (byte) (value >>> 8 * k);
        }
        return made;
    }

    static byte[] blockHead(int n, int kind, boolean last) {
        return number(8L * n + 2 * kind + (last ? 1 : 0), 3);
    }

    static byte[] raw(boolean last, byte[] inside) {
        return join(blockHead(inside.length, 0, last), inside);
    }

    static byte[] run(boolean last, int b, int n) {
        return join(blockHead(n, 1, last), bytes(b));
    }

    static byte[] packed(boolean last, byte[]... parts) {
        byte[] inside = join(parts);
        return join(blockHead(inside.length, 2, last), inside);
    }

    /** A frame with the HEAD above and one block of kind 2. */
    static byte[] frame(byte[]... parts) {
        return join(HEAD, packed(true, parts));
    }

    /** LITERALS that stand for themselves. */
    static byte[] literals(byte[] values) {
        return join(number(values.length * 16L + 12, 3), values);
    }

    /** The head of coded LITERALS. */
    static byte[] coded(int k, int l, int literals, int follow) {
        int bits = l < 2 ? 10 : l == 2 ? 14 : 18;
        int wide = l < 2 ? 3 : l + 2;
        return number(k + 4L * l + 16L * literals + ((long) follow << 4 + bits), wide);
    }

    /** A STREAM: pairs of a number and its bits, in the order of reading. */
    static byte[] stream(long... pairs) {
        BigInteger all = BigInteger.ONE;
        for (int k = 0; k < pairs.length; k += 2) {
            all = all.shiftLeft((int) pairs[k + 1]).add(BigInteger.valueOf(pairs[k]));
        }
        byte[] made = new byte[(all.bitLength() + 7) / 8];
        for (int k = 0; k < made.length; k++) {
            made[k] = all.shiftRight(8 * k).byteValue();
        }
        return made;
    }

    /** Bits upwards: pairs of a number and its bits. */
    static byte[] upwards(long... pairs) {
        BigInteger all = BigInteger.ZERO;
        int n = 0;
        for (int k = 0; k < pairs.length; k += 2) {
            all = all.add(BigInteger.valueOf(pairs[k]).shiftLeft(n));
            n += (int) pairs[k + 1];
        }
        byte[] made = new byte[(n + 7) / 8];
        for (int k = 0; k < made.length; k++) {
            made[k] = all.shiftRight(8 * k).byteValue();
        }
        return made;
    }
}
