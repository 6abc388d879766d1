import java.util.ArrayList;
import java.util.Arrays;
import java.util.List;

/** Promise 7: streams, codes and their descriptions, as LITERALS have them, and fault 12. */
public final class CodesTest {
    private static final Check CHECK = new Check("CodesTest");

    /** Where the description of a frame made by one() stands. */
    private static final int AT = Make.INSIDE + 3;

    /** Weights 0 and 1, each of which takes a bit. */
    private static final Coder EVEN = new Coder(5, 16, 16);

    public static void main(String[] args) {
        ends();
        leastOrder();
        greatestOrder();
        aboveGreatestOrder();
        allSymbols();
        cellsInOrder();
        bitsBelowTheFirst();
        plainWeights();
        halfAByte();
        bytesOfCodedWeights();
        orderOfWeights();
        lastOfWeights();
        twoStates();
        fewerBitsThanItTakes();
        mostWeights();
        weightsWithoutEnd();
        plainBytesEnd();
        codedBytesEnd();
        bytesEndWithTheLiterals();
        shareIsWrong();
        noByteForTheStream();
        lastByteIsNone();
        fewerBitsThanTwoStates();
        sumIsNone();
        noPowerOfTwo();
        fewerThanTwoOnes();
        behindAnotherOne();
        CHECK.end();
    }

    private static void dueWrong(String what, byte[]... follow) {
        CHECK.dueFault(what, Inside.one(1, follow), 12, AT);
    }

    /** So many bits below the END, each a symbol. */
    private static void ends() {
        CHECK.sentence("The END of a STREAM is the highest 1 of its last byte");
        for (int n = 0; n <= 25; n++) {
            long value = 0x1A5A5A5L & (1L << n) - 1;
            byte[] due = new byte[n];
            for (int k = 0; k < n; k++) {
                due[k] = (byte) (value >> n - 1 - k & 1);
            }
            byte[] stream = Make.stream(value, n);
            CHECK.due("bytes of " + n + " bits", stream.length, n / 8 + 1);
            CHECK.dueContent(n + " bits", Inside.one(n, Inside.BITS, stream), due);
        }
        CHECK.dueContent("last byte 1", Inside.one(8, Inside.BITS, Make.bytes(255, 1)), Make.times(1, 8));
        CHECK.dueContent("last byte 128", Inside.one(7, Inside.BITS, Make.bytes(128)), new byte[7]);
        CHECK.dueContent("last byte 255", Inside.one(7, Inside.BITS, Make.bytes(255)), Make.times(1, 7));
    }

    private static void leastOrder() {
        CHECK.sentence("LENGTHS of symbols 0 .. 255, 0 or 1 .. T (T being 1)");
        CHECK.dueContent("two symbols", Inside.one(3, Inside.BITS, Make.stream(0b011, 3)), Make.bytes(0, 1, 1));
    }

    /** A symbol of each length 1 .. 11, and a second one of 11, which is not told. */
    private static void greatestOrder() {
        CHECK.sentence("T at most 11");
        byte[] deep = Make.bytes(127 + 11, 0xBA, 0x98, 0x76, 0x54, 0x32, 0x10);
        CHECK.dueContent("11 bits", Inside.one(3, deep, Make.stream(0, 11, 1, 11, 1, 1)), Make.bytes(10, 11, 0));
        long[] pairs = new long[24];
        byte[] due = new byte[12];
        for (int k = 0; k < 11; k++) {
            pairs[2 * k] = 1;
            pairs[2 * k + 1] = k + 1;
            due[k] = (byte) k;
        }
        pairs[22] = 0;
        pairs[23] = 11;
        due[10] = 11;
        due[11] = 10;
        CHECK.dueContent("of 1 to 11 bits", Inside.one(12, deep, Make.stream(pairs)), due);
    }

    private static void aboveGreatestOrder() {
        CHECK.sentence("It is WRONG if .. T is above 11");
        dueWrong("else right", Make.bytes(127 + 12, 0xCB, 0xA9, 0x87, 0x65, 0x43, 0x21), Make.stream(0, 12));
        dueWrong("two weights of 11", Make.bytes(129, 0xBB, 2));
        dueWrong("a weight of 12", Make.bytes(128, 0xC0, 2));
        dueWrong("a weight of 15", Make.bytes(128, 0xF0, 2));
        dueWrong("128 weights of 15", Make.bytes(255), Make.times(255, 64), Make.bytes(2));
    }

    private static void allSymbols() {
        CHECK.sentence("LENGTHS of symbols 0 .. 255");
        int[] ones = new int[255];
        Arrays.fill(ones, 1);
        long[] pairs = new long[512];
        byte[] due = new byte[256];
        for (int k = 0; k < 256; k++) {
            pairs[2 * k] = k;
            pairs[2 * k + 1] = 8;
            due[k] = (byte) k;
        }
        CHECK.dueContent("8 bits each", Inside.one(256, EVEN.description(ones), Make.stream(pairs)), due);
        int[] last = new int[255];
        last[254] = 1;
        CHECK.dueContent("254 and 255 alone", Inside.one(2, EVEN.description(last), Make.stream(0, 1, 1, 1)), Make.bytes(254, 255));
    }

    /** Weights 2, 0, 1, 3, 1, 2, 2, and the next: 3. The lowest weights have the lowest cells. */
    private static void cellsInOrder() {
        CHECK.sentence("symbols in rising order of their WEIGHTS above 0, those of the same in rising order");
        byte[] weights = Make.bytes(127 + 7, 0x20, 0x13, 0x12, 0x20);
        CHECK.dueContent("each", Inside.one(7, weights, Make.stream(0, 4, 1, 4, 1, 3, 2, 3, 3, 3, 2, 2, 3, 2)),
            Make.bytes(2, 4, 0, 5, 6, 3, 7));
        CHECK.dueContent("each, backwards", Inside.one(7, weights, Make.stream(3, 2, 2, 2, 3, 3, 2, 3, 1, 3, 1, 4, 0, 4)),
            Make.bytes(7, 3, 6, 5, 0, 4, 2));
        CHECK.dueContent("all of one weight", Inside.one(4, Make.bytes(130, 0x11, 0x10),
            Make.stream(0, 2, 1, 2, 2, 2, 3, 2)), Make.bytes(0, 1, 2, 3));
    }

    private static void bitsBelowTheFirst() {
        CHECK.sentence("the T highest bits are looked at (bits below the first one are 0)");
        CHECK.dueContent("one bit of two is there", Inside.one(2, Inside.THREE, Make.stream(0, 2, 1, 1)), Make.bytes(1, 0));
        CHECK.dueContent("one bit alone", Inside.one(1, Inside.THREE, Make.stream(1, 1)), Make.bytes(0));
        byte[] deep = Make.bytes(127 + 11, 0xBA, 0x98, 0x76, 0x54, 0x32, 0x10);
        CHECK.dueContent("1 bit of 11", Inside.one(1, deep, Make.stream(1, 1)), Make.bytes(0));
        CHECK.dueContent("2 bits of 11", Inside.one(1, deep, Make.stream(1, 2)), Make.bytes(1));
        CHECK.dueFault("half a symbol", Inside.one(1, Inside.THREE, Make.stream(0, 1)), 14, AT + 2);
        CHECK.dueFault("10 of 11 bits", Inside.one(1, deep, Make.stream(0, 10)), 14, AT + 7);
    }

    private static void plainWeights() {
        CHECK.sentence("If it is above 127, x - 127 weights, two a byte, the upper four bits first.");
        CHECK.dueContent("128: one weight", Inside.one(2, Make.bytes(128, 0x10), Make.stream(1, 1, 0, 1)), Make.bytes(1, 0));
        CHECK.dueContent("129: two weights", Inside.one(3, Make.bytes(129, 0x21), Make.stream(1, 1, 0, 2, 1, 2)), Make.bytes(0, 1, 2));
        CHECK.dueContent("129: two others", Inside.one(3, Make.bytes(129, 0x12), Make.stream(1, 1, 0, 2, 1, 2)), Make.bytes(1, 0, 2));
        byte[] many = new byte[65];
        many[0] = (byte) 255;
        many[64] = 0x01;
        CHECK.dueContent("255: 128 weights", Inside.one(2, many, Make.stream(0, 1, 1, 1)), Make.bytes(127, 128));
        many[0] = (byte) 254;
        many[64] = 0x10;
        CHECK.dueContent("254: 127 weights", Inside.one(2, many, Make.stream(0, 1, 1, 1)), Make.bytes(126, 127));
    }

    private static void halfAByte() {
        CHECK.sentence("x - 127 weights, two a byte (of an odd number half a byte is left)");
        for (int half : new int[] {0, 1, 15}) {
            CHECK.dueContent("one weight, then " + half, Inside.one(2, Make.bytes(128, 0x10 + half), Make.stream(1, 1, 0, 1)),
                Make.bytes(1, 0));
            CHECK.dueContent("three weights, then " + half, Inside.one(3, Make.bytes(130, 0x01, 0x20 + half),
                Make.stream(1, 1, 0, 2, 1, 2)), Make.bytes(2, 1, 3));
        }
    }

    /** A share and a stream of just so many bytes: most weights are 0, which takes four bits. */
    private static byte[] longDescription(int bytes) {
        Coder share = new Coder(5, 2, 2, 28);
        for (int n = 20; n <= 255; n++) {
            int[] weights = new int[n];
            weights[3] = 1;
            weights[n - 1] = 1;
            byte[] made = share.description(weights);
            if (made.length == bytes + 1) {
                return made;
            }
        }
        throw new IllegalStateException("no description has so many bytes");
    }

    private static void bytesOfCodedWeights() {
        CHECK.sentence("Otherwise x bytes");
        byte[] most = longDescription(127);
        CHECK.due("x", most[0], 127);
        StateFrames x = new StateFrames();
        byte[] frame = Inside.one(1, most, Make.stream(0, 2));
        CHECK.dueRead("127 bytes", x, frame, 9, 1, frame.length);
        CHECK.due("its first symbol", x.byteAt(0), 3);
        dueWrong("127 bytes, and one lacks", Make.first(most, 127));
        dueWrong("none", Make.bytes(0, 2));
    }

    private static void orderOfWeights() {
        CHECK.sentence("a share told, of order 6 at most");
        Coder six = new Coder(6, 20, 30, -1, 0, 0, 0, 0, 10, -1, 0, -1, -1);
        CHECK.dueContent("order 6", Inside.one(2, six.description(1, 1, 2, 0, 0), Make.stream(1, 1, 0, 3)), Make.bytes(5, 0));
        CHECK.dueContent("order 5", Inside.one(3, EVEN.description(1, 1), Make.stream(0, 2, 1, 2, 1, 1)), Make.bytes(0, 1, 2));
        dueWrong("order 7", new Coder(7, 64, 64).description(1, 1), Make.stream(0, 2));
        dueWrong("order 9", new Coder(9, 256, 256).description(1, 1), Make.stream(0, 2));
    }

    private static void lastOfWeights() {
        CHECK.sentence("a share told, of .. LAST 11");
        Coder eleven = new Coder(5, 15, 16, 0, 0, 0, 0, 0, 0, 0, 0, 0, -1);
        CHECK.dueContent("11", Inside.one(1, eleven.description(1, 1), Make.stream(0, 2)), Make.bytes(0));
        Coder twelve = new Coder(5, 15, 16, 0, 0, 0, 0, 0, 0, 0, 0, 0, 0, -1);
        dueWrong("12, which is not used", twelve.description(1, 1), Make.stream(0, 2));
        Coder nothingLeft = new Coder(5, 3, 3, 3, 3, 3, 3, 3, 3, 3, 3, 1, 0, 1);
        dueWrong("11 of none", nothingLeft.description(1, 1), Make.stream(0, 2));
        Coder deep = new Coder(6, 5, 10, 5, 5, 5, 5, 5, 5, 5, 5, 5, 4);
        int[] weights = {11, 10, 9, 8, 7, 6, 5, 4, 3, 2, 1};
        CHECK.dueContent("a weight of 11", Inside.one(2, deep.description(weights), Make.stream(1, 1, 0, 11)), Make.bytes(0, 10));
    }

    private static void twoStates() {
        CHECK.sentence("L bits are a first state, L bits a second one; then, the first and the second by turns");
        CHECK.dueContent("two weights", Inside.one(3, EVEN.description(1, 1), Make.stream(0, 2, 1, 2, 1, 1)), Make.bytes(0, 1, 2));
        CHECK.dueContent("three weights", Inside.one(3, EVEN.description(1, 0, 1), Make.stream(0, 2, 1, 2, 1, 1)), Make.bytes(0, 2, 3));
        Coder share = new Coder(5, 11, 13, 8);
        CHECK.dueContent("four weights", Inside.one(4, share.description(2, 1, 0, 1), Make.stream(1, 2, 0, 3, 1, 3, 1, 1)),
            Make.bytes(0, 1, 3, 4));
        CHECK.dueContent("four others", Inside.one(4, share.description(1, 2, 1, 0), Make.stream(1, 2, 0, 3, 1, 3, 1, 1)),
            Make.bytes(1, 0, 2, 4));
        CHECK.dueContent("seven weights", Inside.one(4, share.description(0, 1, 0, 0, 1, 0, 2), Make.stream(1, 2, 0, 3, 1, 3, 1, 1)),
            Make.bytes(6, 1, 4, 7));
    }

    /** The places of a weight of two points take four bits. */
    private static void fewerBitsThanItTakes() {
        CHECK.sentence("when fewer bits are left than it takes, the symbol of the other state comes, and that is all");
        Coder share = new Coder(5, 2, 2, 28);
        int one = share.states(1)[0];
        CHECK.due("it takes", share.bitsAt(one), 4);
        for (int left = 0; left < 4; left++) {
            List<Long> pairs = new ArrayList<>();
            share.addFirst(pairs, one);
            share.addFirst(pairs, one);
            Coder.add(pairs, (1 << left) - 1, left);
            byte[] inside = Make.join(share.told(), Coder.stream(pairs));
            CHECK.dueContent(left + " are left", Inside.one(3, Make.bytes(inside.length), inside, Make.stream(0, 2, 1, 2, 1, 1)),
                Make.bytes(0, 1, 2));
        }
        CHECK.dueContent("just four are left", Inside.one(4, share.description(1, 1, 2), Make.stream(0, 3, 1, 3, 1, 2, 1, 1)),
            Make.bytes(0, 1, 2, 3));
    }

    private static void mostWeights() {
        CHECK.sentence("It is WRONG if .. more than 255 weights come");
        int[] most = new int[255];
        most[0] = 1;
        most[254] = 1;
        CHECK.dueContent("255 weights", Inside.one(3, EVEN.description(most), Make.stream(0, 2, 1, 2, 1, 1)), Make.bytes(0, 254, 255));
        for (int n : new int[] {256, 257, 300}) {
            int[] tooMany = new int[n];
            tooMany[0] = 1;
            tooMany[254] = 1;
            CHECK.dueFault(n + " weights", Inside.one(3, EVEN.description(tooMany), Make.stream(0, 2, 1, 2, 1, 1)), 12, AT);
        }
    }

    private static void weightsWithoutEnd() {
        CHECK.sentence("It is WRONG if .. more than 255 weights come (as they take no bits)");
        byte[] all = Make.join(new Coder(5, 0, 32).told(), Make.stream(0, 5, 0, 5));
        dueWrong("weights of 1", Make.bytes(all.length), all, Make.bytes(2));
        all = Make.join(new Coder(5, 32).told(), Make.stream(0, 5, 0, 5, 7, 3));
        dueWrong("weights of 0, bits left", Make.bytes(all.length), all, Make.bytes(2));
    }

    private static void plainBytesEnd() {
        CHECK.sentence("It is WRONG if its bytes end within it (above 127)");
        dueWrong("of three weights", Make.bytes(130, 0x11));
        dueWrong("of one weight", Make.bytes(128));
        dueWrong("of 128 weights", Make.bytes(255), Make.times(1, 63));
        dueWrong("before its first byte");
        CHECK.dueFault("just as many, and no stream", Inside.one(1, Make.bytes(130, 0x01, 0x10)), 14, AT + 3);
    }

    private static void codedBytesEnd() {
        CHECK.sentence("It is WRONG if its bytes end within it (up to 127)");
        byte[] right = EVEN.description(1, 1);
        for (int n = 1; n < right.length; n++) {
            dueWrong("cut at " + n, Make.first(right, n));
        }
        CHECK.dueFault("just as many, and no stream", Inside.one(1, right), 14, AT + right.length);
        dueWrong("127 of 126", Make.bytes(127), EVEN.told(), Make.times(255, 124));
    }

    private static void bytesEndWithTheLiterals() {
        CHECK.sentence("12 the DESCRIPTION is WRONG (its bytes end with those told of the LITERALS)");
        CHECK.dueFault("plain weights", Make.frame(Make.coded(2, 0, 1, 2), Make.bytes(130, 0x01), Make.bytes(0x10, 2, 0)), 12, AT);
        byte[] right = EVEN.description(1, 1);
        CHECK.dueFault("coded weights", Make.frame(Make.coded(2, 0, 1, right.length - 1), right, Make.bytes(2, 0)), 12, AT);
        CHECK.dueFault("no byte is told", Make.frame(Make.coded(2, 0, 1, 0), right, Make.bytes(2, 0)), 12, AT);
        CHECK.dueFault("in form 2", Make.frame(Make.coded(2, 2, 3, 1), Make.bytes(128), Make.bytes(0x10, 2, 0)), 12, AT + 1);
        CHECK.dueFault("in form 3", Make.frame(Make.coded(2, 3, 3, 1), Make.bytes(128), Make.bytes(0x10, 2, 0)), 12, AT + 2);
    }

    private static void shareIsWrong() {
        CHECK.sentence("It is WRONG if .. its share is");
        dueWrong("it ends", Make.bytes(1, 0, 2));
        dueWrong("it ends with its x bytes", Make.bytes(1), EVEN.told(), Make.stream(0, 5, 0, 5));
        dueWrong("order 20", Make.bytes(20, 15), Make.times(255, 30));
        dueWrong("a symbol 12", Make.bytes(20), new Coder(5, 3, 3, 3, 3, 3, 3, 3, 3, 3, 3, -1, 0, -1).told(), Make.times(255, 30));
        dueWrong("symbols without points beyond 11", Make.bytes(20), Make.upwards(0, 4, 1, 5, 3, 2, 3, 2, 3, 2, 3, 2, 3, 2), Make.times(255, 30));
    }

    private static void noByteForTheStream() {
        CHECK.sentence("It is WRONG if .. no byte is left for the stream");
        byte[] told = EVEN.told();
        dueWrong("none", Make.bytes(told.length), told, Make.stream(0, 5, 0, 5));
    }

    private static void lastByteIsNone() {
        CHECK.sentence("It is WRONG if .. the last one is 0");
        byte[] told = EVEN.told();
        dueWrong("of one", Make.bytes(told.length + 1), told, Make.bytes(0, 2));
        dueWrong("of three", Make.bytes(told.length + 3), told, Make.bytes(255, 255, 0, 2));
    }

    private static void fewerBitsThanTwoStates() {
        CHECK.sentence("It is WRONG if .. it has fewer bits than two states");
        // If the bits that lack were taken for 0, these would be weights of 1, 1, and the codes right.
        for (int order = 5; order <= 6; order++) {
            byte[] told = new Coder(order, 0, 1 << order - 1, 1 << order - 1).told();
            StateFrames x = new StateFrames();
            byte[] just = Make.stream(0, 2 * order);
            byte[] right = Inside.one(1, Make.bytes(told.length + just.length), told, just, Make.stream(1, 1));
            CHECK.dueContent("just as many", x, right, Make.bytes(2));
            for (int bits = 0; bits < 2 * order; bits++) {
                byte[] stream = Make.stream(0, bits);
                byte[] wrong = Inside.one(1, Make.bytes(told.length + stream.length), told, stream, Make.stream(1, 1));
                CHECK.dueRead(bits + " bits of order " + order, x, wrong, 9, -12, AT);
            }
        }
    }

    private static void sumIsNone() {
        CHECK.sentence("It is WRONG if .. S is 0");
        dueWrong("one weight", Make.bytes(128, 0x0F, 2));
        dueWrong("two weights", Make.bytes(129, 0, 2));
        dueWrong("coded ones", EVEN.description(0, 0), Make.bytes(2));
        dueWrong("128 weights", Make.bytes(255), new byte[64], Make.bytes(2));
    }

    /** What an earlier description told must not be left in a later one. */
    private static void behindAnotherOne() {
        CHECK.sentence("a DESCRIPTION, whose codes are the CODES from now on (one behind another)");
        byte[] none = Make.bytes(0);
        int[] ones = new int[255];
        Arrays.fill(ones, 1);
        byte[] many = EVEN.description(ones);
        byte[] coded = EVEN.description(1, 1);
        byte[] plain = Make.bytes(129, 0x11);
        byte[] eight = Make.stream(255, 8);
        byte[] three = Make.stream(0, 2, 1, 2, 1, 1);
        byte[] first = Make.packed(false, Make.coded(2, 0, 1, many.length + eight.length), many, eight, none);
        for (byte[] later : new byte[][] {coded, plain}) {
            byte[] second = Make.packed(false, Make.coded(2, 0, 3, later.length + three.length), later, three, none);
            byte[] third = Make.packed(true, Make.coded(2, 0, 1, many.length + eight.length), many, eight, none);
            CHECK.dueContent("behind that of all symbols", Make.join(Make.HEAD, first, second, third), Make.bytes(255, 0, 1, 2, 255));
            CHECK.dueContent("twice", Make.join(Make.HEAD, first, second, second, third), Make.bytes(255, 0, 1, 2, 0, 1, 2, 255));
        }
        Coder share = new Coder(5, 2, 14, 0, 0, 0, 0, 0, 0, 0, 0, 8, 8);
        byte[] other = share.description(1, 1);
        byte[] second = Make.packed(false, Make.coded(2, 0, 3, other.length + three.length), other, three, none);
        byte[] again = Make.packed(true, Make.coded(2, 0, 3, coded.length + three.length), coded, three, none);
        CHECK.dueContent("behind a share of more weights", Make.join(Make.HEAD, second, again), Make.bytes(0, 1, 2, 0, 1, 2));
    }

    private static void noPowerOfTwo() {
        CHECK.sentence("It is WRONG if .. 2^T - S is no power of two");
        dueWrong("S 5 of 8", Make.bytes(129, 0x31, 2));
        dueWrong("S 9 of 16", Make.bytes(129, 0x41, 2));
        dueWrong("S 10 of 16", Make.bytes(130, 0x41, 0x10, 2));
        CHECK.dueContent("S 12 of 16: 4", Inside.one(1, Make.bytes(132, 0x41, 0x11, 0x10), Make.stream(1, 1)), Make.bytes(0));
        CHECK.dueContent("S 15 of 16: 1", Inside.one(1, Make.bytes(131, 0x43, 0x21), Make.stream(1, 1)), Make.bytes(0));
        CHECK.dueContent("S 2 of 4: 2", Inside.one(1, Make.bytes(129, 0x11), Make.stream(1, 1)), Make.bytes(2));
    }

    private static void fewerThanTwoOnes() {
        CHECK.sentence("It is WRONG if .. fewer than two weights (with the next one) are 1");
        dueWrong("2 and the next: 2", Make.bytes(128, 0x20, 2));
        dueWrong("3, 2 and the next: 2", Make.bytes(129, 0x32, 2));
        dueWrong("2, 2 and the next: 3", Make.bytes(129, 0x22, 2));
        CHECK.dueContent("2, 1 and the next: 1", Inside.one(1, Make.bytes(129, 0x21), Make.stream(1, 1)), Make.bytes(0));
        CHECK.dueContent("1, 1 and the next: 2", Inside.one(1, Make.bytes(129, 0x11), Make.stream(1, 1)), Make.bytes(2));
        CHECK.dueContent("1 and the next: 1", Inside.one(1, Make.bytes(128, 0x10), Make.stream(1, 1)), Make.bytes(1));
    }
}
