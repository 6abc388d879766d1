/** Promise 7: the LITERALS of a block, codes and descriptions, and the faults 10 to 14. */
public final class LiteralsTest {
    private static final Check CHECK = new Check("LiteralsTest");
    private static final int AT = Make.INSIDE;

    /** No sequences. */
    private static final byte[] NONE = Make.bytes(0);

    /** Symbols 0 and 1, a bit each. */
    private static final byte[] BITS = Make.bytes(128, 0x10);

    /** Symbol 0 is 1, symbol 1 is 00, symbol 2 is 01. */
    private static final byte[] THREE = Make.bytes(129, 0x21);

    public static void main(String[] args) {
        plain();
        plainFaults();
        oneStream();
        fourStreams();
        numbersOfLiterals();
        codesAgain();
        plainWeights();
        codedWeights();
        wrongWeights();
        wrongStreams();
        CHECK.end();
    }

    private static void plain() {
        for (int n : new int[] {0, 1, 2, 7, 30, 31}) {
            byte[] some = Make.times(65, n);
            CHECK.dueContent(n + " in a byte", Make.frame(Make.bytes(8 * n), some, NONE), some);
            CHECK.dueContent(n + " times in a byte", Make.frame(Make.bytes(8 * n + 1, 65), NONE), some);
        }
        for (int n : new int[] {0, 5, 31, 32, 1000}) {
            byte[] some = Make.times(66, n);
            CHECK.dueContent(n + " in two", Make.frame(Make.number(16L * n + 4, 2), some, NONE), some);
            CHECK.dueContent(n + " times in two", Make.frame(Make.number(16L * n + 5, 2), Make.bytes(66), NONE), some);
            CHECK.dueContent(n + " in three", Make.frame(Make.number(16L * n + 12, 3), some, NONE), some);
            CHECK.dueContent(n + " times in three", Make.frame(Make.number(16L * n + 13, 3), Make.bytes(66), NONE), some);
        }
        CHECK.dueContent("each its own", Make.frame(Make.literals(Make.text("dcba")), NONE), Make.text("dcba"));
        byte[] wide = Make.join(Make.bytes(40, 181, 47, 253, 0, 80),
            Make.packed(true, Make.number(16L * 32768 + 13, 3), Make.bytes(3), NONE));
        CHECK.dueContent("32768 times", wide, Make.times(3, 32768));
        CHECK.dueRead("32768 times, one too many", new StateFrames(), wide, 32767, -7, AT);
        CHECK.dueFault("131072 times", Make.join(Make.bytes(40, 181, 47, 253, 0, 80),
            Make.packed(true, Make.number(16L * 131072 + 13, 3), Make.bytes(3), NONE)), 7, AT);
        CHECK.dueFault("131073 times", Make.join(Make.bytes(40, 181, 47, 253, 0, 80),
            Make.packed(true, Make.number(16L * 131073 + 13, 3), Make.bytes(3), NONE)), 11, AT);
    }

    private static void plainFaults() {
        CHECK.dueFault("an empty block", Make.frame(), 10, AT);
        CHECK.dueFault("an empty block, others behind", Make.join(Make.HEAD, Make.packed(false), Make.run(true, 1, 1)), 10, AT);
        CHECK.dueFault("a number of two in one", Make.frame(Make.bytes(4)), 10, AT + 1);
        CHECK.dueFault("a number of three in two", Make.frame(Make.bytes(12, 0)), 10, AT + 2);
        CHECK.dueFault("bytes lack", Make.frame(Make.bytes(24, 1, 2)), 10, AT + 3);
        CHECK.dueFault("the byte lacks", Make.frame(Make.bytes(25)), 10, AT + 1);
        CHECK.dueFault("the byte of none lacks", Make.frame(Make.bytes(1)), 10, AT + 1);
        CHECK.dueFault("bytes lack, others behind",
            Make.join(Make.HEAD, Make.packed(false, Make.bytes(24, 1, 2)), Make.run(true, 1, 1)), 10, AT + 3);
        byte[] other = Make.run(true, 255, 1023);
        CHECK.dueFault("a number of two in one, others behind",
            Make.join(Make.HEAD, Make.packed(false, Make.bytes(4)), other), 10, AT + 1);
        CHECK.dueFault("a number of three in two, others behind",
            Make.join(Make.HEAD, Make.packed(false, Make.bytes(12, 255)), other), 10, AT + 2);
        CHECK.dueFault("a coded number of three in two, others behind",
            Make.join(Make.HEAD, Make.packed(false, Make.bytes(3, 0)), other), 10, AT + 2);
        CHECK.dueFault("the sequences lack, others behind",
            Make.join(Make.HEAD, Make.packed(false, Make.bytes(8, 1)), other), 10, AT + 2);
        CHECK.dueFault("the sequences lack", Make.frame(Make.bytes(8, 1)), 10, AT + 2);
        CHECK.dueFault("1025, and they lack", Make.frame(Make.number(16L * 1025 + 12, 3)), 11, AT);
        CHECK.dueFault("1024, and they lack", Make.frame(Make.number(16L * 1024 + 12, 3)), 10, AT + 3);
        CHECK.dueFault("1025 times", Make.frame(Make.number(16L * 1025 + 13, 3), Make.bytes(1), NONE), 11, AT);
        CHECK.dueContent("1024 times", Make.frame(Make.number(16L * 1024 + 13, 3), Make.bytes(1), NONE), Make.times(1, 1024));
    }

    private static byte[] one(int literals, byte[]... follow) {
        byte[] all = Make.join(follow);
        return Make.frame(Make.coded(2, 0, literals, all.length), all, NONE);
    }

    private static byte[] four(int l, int literals, byte[] description, byte[]... streams) {
        byte[] numbers = Make.join(Make.number(streams[0].length, 2), Make.number(streams[1].length, 2),
            Make.number(streams[2].length, 2));
        byte[] all = Make.join(description, numbers, Make.join(streams));
        return Make.frame(Make.coded(2, l, literals, all.length), all, NONE);
    }

    private static void oneStream() {
        CHECK.dueContent("bits", one(3, BITS, Make.stream(0b011, 3)), Make.bytes(0, 1, 1));
        CHECK.dueContent("more than a byte of bits", one(10, BITS, Make.stream(0b1000000001, 10)),
            Make.bytes(1, 0, 0, 0, 0, 0, 0, 0, 0, 1));
        CHECK.dueContent("of 1 and 2 bits", one(4, THREE, Make.stream(1, 1, 0, 2, 1, 2, 1, 1)), Make.bytes(0, 1, 2, 0));
        CHECK.dueContent("the last one is short", one(2, THREE, Make.stream(0, 2, 1, 1)), Make.bytes(1, 0));
        CHECK.dueContent("no literal", one(0, BITS, Make.bytes(1)), new byte[0]);
    }

    private static void fourStreams() {
        byte[] end = Make.bytes(1);
        byte[] a = Make.stream(0b01, 2);
        byte[] b = Make.stream(0b10, 2);
        byte[] c = Make.stream(0b11, 2);
        for (int l = 1; l < 4; l++) {
            CHECK.dueContent("8 in form " + l, four(l, 8, BITS, a, b, c, a), Make.bytes(0, 1, 1, 0, 1, 1, 0, 1));
            CHECK.dueContent("7 in form " + l, four(l, 7, BITS, a, b, c, Make.stream(1, 1)), Make.bytes(0, 1, 1, 0, 1, 1, 1));
            CHECK.dueContent("6 in form " + l, four(l, 6, BITS, a, b, c, end), Make.bytes(0, 1, 1, 0, 1, 1));
        }
        byte[] bit = Make.stream(1, 1);
        CHECK.dueContent("3", four(1, 3, BITS, bit, bit, bit, end), Make.bytes(1, 1, 1));
        CHECK.dueContent("4", four(1, 4, BITS, bit, bit, bit, bit), Make.bytes(1, 1, 1, 1));
        CHECK.dueContent("none", four(1, 0, BITS, end, end, end, end), new byte[0]);
        for (int n : new int[] {1, 2, 5}) {
            CHECK.dueFault(n + " cannot be", four(1, n, BITS, bit, bit, bit, bit), 11, AT);
        }
        CHECK.dueContent("9", four(1, 9, BITS, Make.stream(7, 3), Make.stream(7, 3), Make.stream(7, 3), end), Make.times(1, 9));
        byte[] long1 = Make.stream(Long.MAX_VALUE >> 1, 62, Long.MAX_VALUE >> 1, 62, 3, 2, 3, 2, -1L >>> 1, 63, -1L >>> 1, 63, 3, 2);
        CHECK.dueContent("1024", four(2, 1024, BITS, long1, long1, long1, long1), Make.times(1, 1024));
    }

    private static void numbersOfLiterals() {
        CHECK.dueFault("three bytes lack", Make.frame(Make.bytes(2, 0)), 10, AT + 2);
        CHECK.dueFault("four bytes lack", Make.frame(Make.bytes(10, 0, 0)), 10, AT + 3);
        CHECK.dueFault("five bytes lack", Make.frame(Make.bytes(14, 0, 0, 0)), 10, AT + 4);
        CHECK.dueFault("what is told lacks", Make.frame(Make.coded(2, 0, 3, 3), BITS), 10, AT + 5);
        CHECK.dueFault("1025", Make.frame(Make.coded(2, 2, 1025, 3)), 11, AT);
        CHECK.dueFault("1025, no codes", Make.frame(Make.coded(3, 2, 1025, 3)), 11, AT);
        CHECK.dueFault("5 in four, no codes", Make.frame(Make.coded(3, 1, 5, 3)), 11, AT);
        CHECK.dueFault("no codes, and nothing there", Make.frame(Make.coded(3, 0, 5, 3)), 13, AT);
        CHECK.dueFault("no codes", Make.frame(Make.coded(3, 0, 1, 1), Make.bytes(2), NONE), 13, AT);
        CHECK.dueFault("131073 of five bytes", Make.join(Make.bytes(40, 181, 47, 253, 0, 80),
            Make.packed(true, Make.coded(2, 3, 131073, 3))), 11, AT);
        CHECK.dueFault("131072 of five bytes", Make.join(Make.bytes(40, 181, 47, 253, 0, 80),
            Make.packed(true, Make.coded(2, 3, 131072, 3))), 10, AT + 5);
    }

    private static void codesAgain() {
        byte[] told = Make.packed(false, Make.coded(2, 0, 2, 3), BITS, Make.stream(0b01, 2), NONE);
        byte[] other = Make.packed(false, Make.coded(2, 0, 1, 3), THREE, Make.stream(0b01, 2), NONE);
        byte[] again = Make.packed(true, Make.coded(3, 0, 2, 1), Make.stream(0b10, 2), NONE);
        byte[] plain = Make.packed(false, Make.bytes(8, 7), NONE);
        CHECK.dueContent("again", Make.join(Make.HEAD, told, again), Make.bytes(0, 1, 1, 0));
        CHECK.dueContent("again behind others", Make.join(Make.HEAD, told, plain, Make.run(false, 9, 1), again),
            Make.bytes(0, 1, 7, 9, 1, 0));
        CHECK.dueContent("the latest", Make.join(Make.HEAD, told, other,
            Make.packed(true, Make.coded(3, 0, 2, 1), Make.stream(0b100, 3), NONE)), Make.bytes(0, 1, 2, 0, 1));
        byte[] frame = Make.join(Make.HEAD, told, again);
        CHECK.dueFault("none in the next frame", Make.join(frame, Make.HEAD, again), 13, frame.length + AT);
        byte[] four = Make.packed(true, Make.coded(3, 1, 4, 10), Make.bytes(1, 0, 1, 0, 1, 0, 2, 3, 3, 2), NONE);
        CHECK.dueContent("again in four", Make.join(Make.HEAD, told, four), Make.bytes(0, 1, 0, 1, 1, 0));
    }

    private static void plainWeights() {
        byte[] letters = new byte[51];
        letters[0] = (byte) (127 + 99);
        letters[49] = 0x02;
        letters[50] = 0x10;
        CHECK.dueContent("a to c", one(4, letters, Make.stream(1, 1, 0, 2, 1, 1, 1, 2)), Make.text("abac"));
        letters[50] = 0x1F;
        CHECK.dueContent("half a byte too much", one(4, letters, Make.stream(1, 1, 0, 2, 1, 1, 1, 2)), Make.text("abac"));
        byte[] many = new byte[65];
        many[0] = (byte) 255;
        many[64] = 0x01;
        CHECK.dueContent("128 weights", one(2, many, Make.stream(0, 1, 1, 1)), Make.bytes(127, 128));
        byte[] deep = Make.bytes(127 + 11, 0xBA, 0x98, 0x76, 0x54, 0x32, 0x10);
        CHECK.dueContent("11 bits", one(3, deep, Make.stream(0, 11, 1, 11, 1, 1)), Make.bytes(10, 11, 0));
        CHECK.dueContent("of one weight in rising order", one(4, Make.bytes(130, 0x11, 0x10),
            Make.stream(0, 2, 1, 2, 2, 2, 3, 2)), Make.bytes(0, 1, 2, 3));
    }

    private static void codedWeights() {
        Coder even = new Coder(5, 16, 16);
        CHECK.dueContent("two weights", one(3, even.description(1, 1), Make.stream(0, 2, 1, 2, 1, 1)), Make.bytes(0, 1, 2));
        CHECK.dueContent("three weights", one(3, even.description(1, 0, 1), Make.stream(0, 2, 1, 2, 1, 1)), Make.bytes(0, 2, 3));
        Coder six = new Coder(6, 20, 30, -1, 0, 0, 0, 0, 10, -1, 0, -1, -1);
        CHECK.dueContent("order 6", one(2, six.description(1, 1, 2, 0, 0), Make.stream(1, 1, 0, 3)), Make.bytes(5, 0));
        Coder eleven = new Coder(5, 15, 16, 0, 0, 0, 0, 0, 0, 0, 0, 0, -1);
        CHECK.dueContent("a symbol 11", one(1, eleven.description(1, 1), Make.stream(0, 2)), Make.bytes(0));
        int[] most = new int[255];
        most[0] = 1;
        most[254] = 1;
        CHECK.dueContent("255 weights", one(3, even.description(most), Make.stream(0, 2, 1, 2, 1, 1)), Make.bytes(0, 254, 255));
        int[] tooMany = new int[256];
        tooMany[0] = 1;
        tooMany[254] = 1;
        CHECK.dueFault("256 weights", one(3, even.description(tooMany), Make.stream(0, 2, 1, 2, 1, 1)), 12, AT + 3);
        byte[] all = Make.join(new Coder(5, 0, 32).told(), Make.stream(0, 5, 0, 5));
        CHECK.dueFault("weights without an end", one(1, Make.bytes(all.length), all, Make.bytes(2)), 12, AT + 3);
    }

    private static void wrong(String what, byte[]... follow) {
        CHECK.dueFault(what, one(1, follow), 12, AT + 3);
    }

    private static void wrongWeights() {
        Coder even = new Coder(5, 16, 16);
        byte[] told = even.told();
        wrong("no description");
        wrong("no bytes in it", Make.bytes(0, 2));
        wrong("more bytes than told", Make.bytes(3, 2, 2));
        wrong("fewer bytes than weights", Make.bytes(130, 0x11));
        wrong("order 7", new Coder(7, 64, 64).description(1, 1), Make.stream(0, 2));
        wrong("a symbol 12 that is not used", new Coder(5, 15, 16, 0, 0, 0, 0, 0, 0, 0, 0, 0, 0, -1).description(1, 1),
            Make.stream(0, 2));
        wrong("T 12, else right", Make.bytes(127 + 12, 0xCB, 0xA9, 0x87, 0x65, 0x43, 0x21), Make.stream(0, 12));
        wrong("a share that ends", Make.bytes(1, 0, 2));
        wrong("a symbol 12", Make.bytes(20), new Coder(5, 3, 3, 3, 3, 3, 3, 3, 3, 3, 3, -1, 0, -1).told(), Make.times(255, 30));
        wrong("no points for all", Make.bytes(20), Make.upwards(0, 4, 1, 5, 3, 2, 3, 2, 3, 2, 3, 2, 3, 2), Make.times(255, 30));
        wrong("no stream", Make.bytes(told.length), told, Make.bytes(2));
        wrong("a stream of 0", Make.bytes(told.length + 2), told, Make.bytes(255, 0), Make.bytes(2));
        wrong("9 bits for two states", Make.bytes(told.length + 2), told, Make.stream(0, 9), Make.bytes(2));
        wrong("only weights of 0", Make.bytes(129, 0, 2));
        wrong("only coded weights of 0", even.description(0, 0), Make.bytes(2));
        wrong("a weight of 12", Make.bytes(128, 0xC0, 2));
        wrong("a weight of 15", Make.bytes(128, 0xF0, 2));
        wrong("T 12 by sums", Make.bytes(129, 0xBB, 2));
        wrong("no power of two", Make.bytes(129, 0x31, 2));
        wrong("no weight of 1", Make.bytes(128, 0x20, 2));
        wrong("no weight of 1 among 3", Make.bytes(129, 0x32, 2));
        byte[] inIt = one(1, Make.bytes(4), told, Make.bytes(255, 255), Make.bytes(2));
        inIt[AT + 3] = 40;
        CHECK.dueFault("more than is told of the literals", Make.join(inIt, Make.times(1, 90)), 12, AT + 3);
    }

    private static void wrongStreams() {
        int at = AT + 5;
        CHECK.dueFault("no byte", one(1, BITS), 14, at);
        CHECK.dueFault("a 0", one(1, BITS, Make.bytes(0)), 14, at);
        CHECK.dueFault("a 0 at last", one(1, BITS, Make.bytes(3, 0)), 14, at);
        CHECK.dueFault("a bit left", one(1, BITS, Make.stream(0, 2)), 14, at);
        CHECK.dueFault("a bit lacks", one(3, BITS, Make.stream(0, 2)), 14, at);
        CHECK.dueFault("a bit for none", one(0, BITS, Make.stream(0, 1)), 14, at);
        CHECK.dueFault("half a symbol", one(2, THREE, Make.stream(1, 1, 0, 1)), 14, at);
        CHECK.dueFault("8 bits left", one(1, BITS, Make.stream(0, 9)), 14, at);
        CHECK.dueFault("very many lack", Make.frame(Make.coded(2, 0, 1000, 3), BITS, Make.bytes(2), NONE), 14, at);
        CHECK.dueFault("a description to the block's end",
            Make.frame(Make.coded(2, 0, 1, 3), Make.bytes(129, 0, 2)), 12, AT + 3);
        CHECK.dueFault("a stream to the block's end",
            Make.frame(Make.coded(2, 0, 1, 3), BITS, Make.bytes(0)), 14, at);
        CHECK.dueFault("the literals to the block's end",
            Make.frame(Make.coded(2, 0, 1, 3), BITS, Make.bytes(2)), 10, at + 1);
        CHECK.dueFault("three numbers alone", Make.frame(Make.coded(2, 1, 4, 8), BITS, Make.times(0, 6), NONE), 14, at + 6);
        byte[] bit = Make.stream(1, 1);
        byte[] none = new byte[0];
        byte[] zero = Make.bytes(0);
        CHECK.dueFault("the numbers lack", Make.frame(Make.coded(2, 1, 4, 7), BITS, Make.times(0, 5), NONE), 14, at);
        CHECK.dueFault("the numbers reach beyond", Make.frame(Make.coded(2, 1, 4, 11), BITS,
            Make.bytes(1, 0, 1, 0, 2, 0, 2, 2, 2), NONE), 14, at);
        CHECK.dueFault("a number reaches far beyond", Make.frame(Make.coded(2, 1, 4, 11), BITS,
            Make.bytes(255, 255, 255, 255, 255, 255, 2, 2, 2), NONE), 14, at);
        CHECK.dueFault("no byte in the first", four(1, 4, BITS, none, bit, bit, bit), 14, at + 6);
        CHECK.dueFault("no byte in the second", four(1, 4, BITS, bit, none, bit, bit), 14, at + 7);
        CHECK.dueFault("no byte in the third", four(1, 4, BITS, bit, bit, none, bit), 14, at + 8);
        CHECK.dueFault("no byte in the fourth", four(1, 4, BITS, bit, bit, bit, none), 14, at + 9);
        CHECK.dueFault("the third, and the fourth", four(1, 4, BITS, bit, bit, zero, none), 14, at + 8);
        CHECK.dueFault("bits left in the second, no byte in the third",
            four(1, 4, BITS, bit, Make.stream(0, 10), none, bit), 14, at + 7);
        CHECK.dueFault("a bit for none in the fourth", four(1, 3, BITS, bit, bit, bit, bit), 14, at + 9);
        CHECK.dueFault("no codes told: the stream behind the head", Make.join(Make.HEAD,
            Make.packed(false, Make.coded(2, 0, 1, 3), BITS, bit, NONE),
            Make.packed(true, Make.coded(3, 0, 1, 0), NONE)), 14, AT + 7 + 3 + 3);
    }
}
