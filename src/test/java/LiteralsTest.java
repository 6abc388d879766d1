/** Promise 7: the LITERALS of a block, and the faults 10, 11, 13 and 14. */
public final class LiteralsTest {
    private static final Check CHECK = new Check("LiteralsTest");
    private static final int AT = Make.INSIDE;
    private static final byte[] NONE = Inside.NONE;
    private static final byte[] BITS = Inside.BITS;

    /** A block behind the one at fault, whose bytes must not be taken for its own. */
    private static final byte[] OTHER = Make.run(true, 255, 1023);

    private static final byte[] BIT = Make.stream(1, 1);
    private static final byte[] END = Make.bytes(1);

    public static void main(String[] args) {
        numberInAByte();
        numberInTwoBytes();
        numberInThreeBytes();
        noPlainLiterals();
        eachItsOwn();
        numbersOfTenBits();
        numbersOfFourteenBits();
        numbersOfEighteenBits();
        codesFromNowOn();
        oneStream();
        quarters();
        headEnds();
        bytesEnd();
        sequencesLack();
        aboveMost();
        fourCannotHave();
        noCodes();
        beforeBytesAreThere();
        numbersBeyond();
        numbersLack();
        streamHasNoByte();
        lastByteIsNone();
        notJustItsBits();
        firstSuchOne();
        moreThanMayBe();
        CHECK.end();
    }

    private static byte[] wide(byte[]... parts) {
        return Make.join(Make.WIDE, Make.packed(true, parts));
    }

    private static void numberInAByte() {
        CHECK.sentence("If k is 0 or 1: with l 0 or 2 their number is h / 8");
        for (int n : new int[] {0, 1, 2, 7, 8, 15, 16, 30, 31}) {
            byte[] some = Make.times(65, n);
            CHECK.dueContent(n + " bytes", Make.frame(Make.bytes(8 * n), some, NONE), some);
            CHECK.dueContent(n + " times", Make.frame(Make.bytes(8 * n + 1, 65), NONE), some);
        }
    }

    private static void numberInTwoBytes() {
        CHECK.sentence("with l 1 a number of two bytes / 16");
        for (int n : new int[] {0, 5, 31, 32, 255, 256, 1024, 4095}) {
            byte[] some = Make.times(66, n);
            CHECK.dueContent(n + " bytes", wide(Make.number(16L * n + 4, 2), some, NONE), some);
            CHECK.dueContent(n + " times", wide(Make.number(16L * n + 5, 2), Make.bytes(66), NONE), some);
        }
    }

    private static void numberInThreeBytes() {
        CHECK.sentence("with 3 of three bytes / 16 (h being the first)");
        for (int n : new int[] {0, 5, 4095, 4096, 11900}) {
            byte[] some = Make.times(67, n);
            CHECK.dueContent(n + " bytes", wide(Make.number(16L * n + 12, 3), some, NONE), some);
        }
        for (int n : new int[] {0, 5, 4095, 4096, 32768}) {
            CHECK.dueContent(n + " times", wide(Make.number(16L * n + 13, 3), Make.bytes(67), NONE), Make.times(67, n));
        }
    }

    private static void noPlainLiterals() {
        CHECK.sentence("k 0: so many bytes follow; 1: a byte, so many times (none)");
        CHECK.dueContent("no bytes", Make.frame(Make.bytes(0), NONE), new byte[0]);
        CHECK.dueContent("a byte, no times", Make.frame(Make.bytes(1, 9), NONE), new byte[0]);
        CHECK.dueFault("no times, and no byte", Make.frame(Make.bytes(1)), 10, AT + 1);
    }

    private static void eachItsOwn() {
        CHECK.sentence("k 0: so many bytes follow");
        CHECK.dueContent("each its own", Make.frame(Make.literals(Make.text("dcba")), NONE), Make.text("dcba"));
        byte[] many = Inside.differing(1024);
        CHECK.dueContent("1024 of them", Make.frame(Make.literals(Make.first(many, 1000)), NONE), Make.first(many, 1000));
    }

    /** Streams of n bits of 1, each a symbol. */
    private static byte[] ones(int n) {
        long[] pairs = new long[2 * ((n + 61) / 62)];
        for (int k = 0; k < pairs.length; k += 2) {
            int width = Math.min(62, n - 31 * k);
            pairs[k] = (1L << width) - 1;
            pairs[k + 1] = width;
        }
        return Make.stream(pairs);
    }

    private static byte[] inFour(int l, int n, int k, byte[] description) {
        int quarter = (n + 3) / 4;
        byte[] first = ones(quarter);
        byte[] streams = Make.join(first, first, first, ones(n - 3 * quarter));
        byte[] numbers = Make.join(Make.number(first.length, 2), Make.number(first.length, 2), Make.number(first.length, 2));
        byte[] all = Make.join(description, numbers, streams);
        return Make.join(Make.coded(k, l, n, all.length), all, NONE);
    }

    private static void numbersOfTenBits() {
        CHECK.sentence("a number of 3 bytes for l 0 and 1 .. in 10 .. bits each");
        CHECK.dueContent("1023 in one stream", Inside.one(1023, BITS, ones(1023)), Make.times(1, 1023));
        CHECK.dueContent("1023 in four", wide(inFour(1, 1023, 2, BITS)), Make.times(1, 1023));
        int[] weights = new int[255];
        java.util.Arrays.fill(weights, 1);
        byte[] eight = new Coder(5, 16, 16).description(weights);
        byte[] some = Inside.differing(1023 - eight.length - 1);
        byte[] backwards = new byte[some.length + 1];
        for (int k = 0; k < some.length; k++) {
            backwards[some.length - 1 - k] = some[k];
        }
        backwards[some.length] = 1;
        byte[] full = wide(Make.coded(2, 0, some.length, 1023), eight, backwards, NONE);
        CHECK.dueContent("1023 bytes follow", full, some);
    }

    private static void numbersOfFourteenBits() {
        CHECK.sentence("(a number) of 4 for 2 .. in .. 14 .. bits each");
        CHECK.dueContent("3", Make.frame(inFour(2, 3, 2, BITS)), Make.times(1, 3));
        CHECK.dueContent("1024", Make.frame(inFour(2, 1024, 2, BITS)), Make.times(1, 1024));
        CHECK.dueContent("16383", wide(inFour(2, 16383, 2, BITS)), Make.times(1, 16383));
        CHECK.dueFault("16383 bytes lack", wide(Make.coded(2, 2, 16383, 16383), BITS), 10, AT + 4 + 2);
    }

    private static void numbersOfEighteenBits() {
        CHECK.sentence("(a number) of 5 for 3 .. in .. 18 bits each");
        CHECK.dueContent("3", Make.frame(inFour(3, 3, 2, BITS)), Make.times(1, 3));
        CHECK.dueContent("16384", wide(inFour(3, 16384, 2, BITS)), Make.times(1, 16384));
        CHECK.dueContent("32768", wide(inFour(3, 32768, 2, BITS)), Make.times(1, 32768));
        CHECK.dueFault("131072, of which bytes lack", wide(Make.coded(2, 3, 131072, (1 << 18) - 1)), 10, AT + 5);
        CHECK.dueFault("2^18 - 1", wide(Make.coded(2, 3, (1 << 18) - 1, 3)), 11, AT);
    }

    private static void codesFromNowOn() {
        CHECK.sentence("with k 2, a DESCRIPTION, whose codes are the CODES from now on");
        byte[] told = Make.packed(false, Make.coded(2, 0, 2, 3), BITS, Make.stream(0b01, 2), NONE);
        byte[] other = Make.packed(false, Make.coded(2, 0, 1, 3), Inside.THREE, Make.stream(0b01, 2), NONE);
        byte[] again = Make.packed(true, Make.coded(3, 0, 2, 1), Make.stream(0b10, 2), NONE);
        byte[] plain = Make.packed(false, Make.bytes(8, 7), NONE);
        CHECK.dueContent("again", Make.join(Make.HEAD, told, again), Make.bytes(0, 1, 1, 0));
        CHECK.dueContent("again behind others", Make.join(Make.HEAD, told, plain, Make.run(false, 9, 1), again),
            Make.bytes(0, 1, 7, 9, 1, 0));
        CHECK.dueContent("the latest", Make.join(Make.HEAD, told, other,
            Make.packed(true, Make.coded(3, 0, 2, 1), Make.stream(0b100, 3), NONE)), Make.bytes(0, 1, 2, 0, 1));
        byte[] four = Make.packed(true, Make.coded(3, 1, 4, 10), Make.bytes(1, 0, 1, 0, 1, 0, 2, 3, 3, 2), NONE);
        CHECK.dueContent("again in four", Make.join(Make.HEAD, told, four), Make.bytes(0, 1, 0, 1, 1, 0));
    }

    private static void oneStream() {
        CHECK.sentence("then a STREAM (l 0)");
        CHECK.dueContent("none of them", Inside.one(0, BITS, END), new byte[0]);
        CHECK.dueContent("one of them", Inside.one(1, BITS, BIT), Make.bytes(1));
        CHECK.dueContent("of 1 and 2 bits", Inside.one(4, Inside.THREE, Make.stream(1, 1, 0, 2, 1, 2, 1, 1)), Make.bytes(0, 1, 2, 0));
        CHECK.dueContent("five, which four streams could not have", Inside.one(5, BITS, Make.stream(21, 5)), Make.bytes(1, 0, 1, 0, 1));
    }

    private static void quarters() {
        CHECK.sentence("of n LITERALS each of the first three has n / 4, rounded up, the last one what is left");
        byte[] a = Make.stream(0b01, 2);
        byte[] b = Make.stream(0b10, 2);
        byte[] c = Make.stream(0b11, 2);
        for (int l = 1; l < 4; l++) {
            CHECK.dueContent("0 in form " + l, Inside.four(l, 0, BITS, END, END, END, END), new byte[0]);
            CHECK.dueContent("3 in form " + l, Inside.four(l, 3, BITS, BIT, BIT, BIT, END), Make.bytes(1, 1, 1));
            CHECK.dueContent("4 in form " + l, Inside.four(l, 4, BITS, BIT, BIT, BIT, BIT), Make.bytes(1, 1, 1, 1));
            CHECK.dueContent("6 in form " + l, Inside.four(l, 6, BITS, a, b, c, END), Make.bytes(0, 1, 1, 0, 1, 1));
            CHECK.dueContent("7 in form " + l, Inside.four(l, 7, BITS, a, b, c, BIT), Make.bytes(0, 1, 1, 0, 1, 1, 1));
            CHECK.dueContent("8 in form " + l, Inside.four(l, 8, BITS, a, b, c, a), Make.bytes(0, 1, 1, 0, 1, 1, 0, 1));
        }
        byte[] three = Make.stream(7, 3);
        CHECK.dueContent("9", Inside.four(1, 9, BITS, three, three, three, END), Make.times(1, 9));
        CHECK.dueContent("10", Inside.four(1, 10, BITS, three, three, three, BIT), Make.times(1, 10));
    }

    private static void headEnds() {
        CHECK.sentence("10 it ends where something has to come (PLACE: its end) (in LITERALS' number)");
        byte[][] heads = {{}, {4}, {5}, {12}, {12, -1}, {13, -1}, {2}, {2, 0}, {3, 0}, {6, 0}, {10, 0, 0}, {11, 0, 0}, {14, 0, 0, 0}, {15, 0, 0, 0}};
        for (byte[] head : heads) {
            String what = head.length == 0 ? "no byte" : head.length + " of " + head[0];
            CHECK.dueFault(what, Make.frame(head), 10, AT + head.length);
            CHECK.dueFault(what + ", a block behind", Make.join(Make.HEAD, Make.packed(false, head), OTHER), 10, AT + head.length);
        }
    }

    private static void bytesEnd() {
        CHECK.sentence("10 it ends where something has to come (PLACE: its end) (in LITERALS' bytes)");
        byte[][] insides = {{24, 1, 2}, {25}, {8}, {20, 2}, {28, 2, 0}, {29, 2, 0}, Make.join(Make.coded(2, 0, 3, 3), BITS), Make.coded(2, 0, 3, 1)};
        for (byte[] inside : insides) {
            String what = inside.length + " of " + inside[0];
            CHECK.dueFault(what, Make.frame(inside), 10, AT + inside.length);
            CHECK.dueFault(what + ", a block behind", Make.join(Make.HEAD, Make.packed(false, inside), OTHER), 10, AT + inside.length);
        }
    }

    private static void sequencesLack() {
        CHECK.sentence("10 it ends where something has to come (PLACE: its end) (behind LITERALS)");
        CHECK.dueFault("plain ones", Make.frame(Make.bytes(8, 1)), 10, AT + 2);
        CHECK.dueFault("none", Make.frame(Make.bytes(0)), 10, AT + 1);
        CHECK.dueFault("coded ones", Make.frame(Make.coded(2, 0, 1, 3), BITS, BIT), 10, AT + 6);
        CHECK.dueFault("a block behind", Make.join(Make.HEAD, Make.packed(false, Make.bytes(8, 1)), OTHER), 10, AT + 2);
        CHECK.dueFault("a wrong description comes first", Make.frame(Make.coded(2, 0, 1, 3), Make.bytes(129, 0, 2)), 12, AT + 3);
        CHECK.dueFault("a wrong stream comes first", Make.frame(Make.coded(2, 0, 1, 3), BITS, Make.bytes(0)), 14, AT + 5);
    }

    private static void aboveMost() {
        CHECK.sentence("11 the number of LITERALS is above MOST OF A BLOCK");
        CHECK.dueFault("1025 times", Make.frame(Inside.times(1, 1025), NONE), 11, AT);
        CHECK.dueContent("1024 times", Make.frame(Inside.times(1, 1024), NONE), Make.times(1, 1024));
        CHECK.dueFault("1025 bytes", Make.frame(Make.number(16L * 1025 + 12, 3)), 11, AT);
        CHECK.dueFault("1024 bytes, which lack", Make.frame(Make.number(16L * 1024 + 12, 3)), 10, AT + 3);
        CHECK.dueFault("1025 coded", Make.frame(Make.coded(2, 2, 1025, 3), BITS, END), 11, AT);
        CHECK.dueContent("1024 coded", Make.frame(inFour(2, 1024, 2, BITS)), Make.times(1, 1024));
        CHECK.dueFault("131073 of a wide WINDOW", wide(Inside.times(1, 131073), NONE), 11, AT);
        CHECK.dueFault("131072 of a wide WINDOW", wide(Inside.times(1, 131072), NONE), 7, AT);
        CHECK.dueFault("2^20 - 1", wide(Inside.times(1, (1 << 20) - 1), NONE), 11, AT);
        byte[] three = Make.bytes(40, 181, 47, 253, 32, 3);
        CHECK.dueFault("4 of a WINDOW of 3", Make.join(three, Make.packed(true, Make.bytes(33), Make.bytes(1), NONE)), 11, AT);
        CHECK.dueContent("3 of a WINDOW of 3", Make.join(three, Make.packed(true, Make.bytes(25), Make.bytes(1), NONE)), Make.times(1, 3));
    }

    private static void fourCannotHave() {
        CHECK.sentence("or one that four streams cannot have (less than 3 times n / 4 rounded up; 0 can be)");
        for (int n : new int[] {1, 2, 5}) {
            for (int l = 1; l < 4; l++) {
                CHECK.dueFault(n + " in form " + l, Inside.four(l, n, BITS, BIT, BIT, BIT, BIT), 11, AT);
            }
        }
        CHECK.dueContent("0", Inside.four(1, 0, BITS, END, END, END, END), new byte[0]);
        for (int n : new int[] {3, 4, 6, 7, 8, 9, 10, 11, 12, 13}) {
            CHECK.dueContent(n + " can be", Make.frame(inFour(1, n, 2, BITS)), Make.times(1, n));
        }
        CHECK.dueContent("5 times a byte", Make.frame(Make.number(16L * 5 + 13, 3), Make.bytes(9), NONE), Make.times(9, 5));
    }

    private static void noCodes() {
        CHECK.sentence("13 there are no CODES (k 3)");
        CHECK.dueFault("at first", Make.frame(Make.coded(3, 0, 1, 1), Make.bytes(2), NONE), 13, AT);
        CHECK.dueFault("in four", Make.frame(inFour(1, 4, 3, new byte[0])), 13, AT);
        CHECK.dueFault("of no LITERALS", Make.frame(Make.coded(3, 0, 0, 1), END, NONE), 13, AT);
        byte[] told = Make.packed(true, Make.coded(2, 0, 2, 3), BITS, Make.stream(0b01, 2), NONE);
        byte[] frame = Make.join(Make.HEAD, told);
        byte[] again = Make.packed(true, Make.coded(3, 0, 2, 1), Make.stream(0b10, 2), NONE);
        CHECK.dueFault("in the next frame", Make.join(frame, Make.HEAD, again), 13, frame.length + AT);
        byte[] behind = Make.join(Make.HEAD, Make.packed(false, Make.bytes(8, 7), NONE), again);
        CHECK.dueFault("behind plain ones", behind, 13, AT + 3 + 3);
    }

    private static void beforeBytesAreThere() {
        CHECK.sentence("this, as 11, before it is looked whether the bytes told are there: 10");
        CHECK.dueFault("13 before 10", Make.frame(Make.coded(3, 0, 5, 3)), 13, AT);
        CHECK.dueFault("11 before 10", Make.frame(Make.coded(2, 2, 1025, 3)), 11, AT);
        CHECK.dueFault("11 of four before 10", Make.frame(Make.coded(2, 1, 5, 3)), 11, AT);
        CHECK.dueFault("11 of bytes before 10", Make.frame(Make.number(16L * 1025 + 12, 3)), 11, AT);
        CHECK.dueFault("11 of a byte before 10", Make.frame(Make.number(16L * 1025 + 13, 3)), 11, AT);
        CHECK.dueFault("11 before 13", Make.frame(Make.coded(3, 2, 1025, 3)), 11, AT);
        CHECK.dueFault("11 of four before 13", Make.frame(Make.coded(3, 1, 5, 3)), 11, AT);
        CHECK.dueFault("10 before 12", Make.frame(Make.coded(2, 0, 3, 3), Make.bytes(129, 0)), 10, AT + 5);
    }

    private static byte[] withNumbers(int first, int second, int third, int bytes) {
        return Make.frame(Make.coded(2, 1, 4, 8 + bytes), BITS,
            Make.number(first, 2), Make.number(second, 2), Make.number(third, 2), Make.times(2, bytes), NONE);
    }

    private static void numbersBeyond() {
        CHECK.sentence("14 the three numbers reach beyond the bytes told (PLACE: the three numbers)");
        CHECK.dueContent("not beyond", withNumbers(1, 1, 1, 4), new byte[4]);
        CHECK.dueFault("just to the end: the fourth has no byte", withNumbers(1, 1, 2, 4), 14, AT + 5 + 6 + 2);
        CHECK.dueFault("one beyond, by the third", withNumbers(1, 1, 3, 4), 14, AT + 5);
        CHECK.dueFault("one beyond, by the second", withNumbers(1, 4, 0, 4), 14, AT + 5);
        CHECK.dueFault("one beyond, by the first", withNumbers(5, 0, 0, 4), 14, AT + 5);
        CHECK.dueFault("far beyond", withNumbers(65535, 65535, 65535, 4), 14, AT + 5);
        CHECK.dueFault("far beyond by two bytes' wrap", withNumbers(65535, 1, 3, 4), 14, AT + 5);
    }

    private static void numbersLack() {
        CHECK.sentence("14 the three numbers .. lack (PLACE: the three numbers)");
        for (int n = 0; n < 6; n++) {
            CHECK.dueFault(n + " of 6 bytes", Make.frame(Make.coded(2, 1, 4, 2 + n), BITS, Make.times(0, n), NONE), 14, AT + 5);
        }
        CHECK.dueFault("6 of 6: the first stream has no byte",
            Make.frame(Make.coded(2, 1, 4, 8), BITS, Make.times(0, 6), NONE), 14, AT + 11);
    }

    private static void streamHasNoByte() {
        CHECK.sentence("14 .. a stream .. has no byte (PLACE: .. the stream)");
        byte[] none = new byte[0];
        CHECK.dueFault("the only one", Inside.one(1, BITS), 14, AT + 5);
        CHECK.dueFault("the only one of no LITERALS", Inside.one(0, BITS), 14, AT + 5);
        CHECK.dueFault("the first", Inside.four(1, 4, BITS, none, BIT, BIT, BIT), 14, AT + 11);
        CHECK.dueFault("the second", Inside.four(1, 4, BITS, BIT, none, BIT, BIT), 14, AT + 12);
        CHECK.dueFault("the third", Inside.four(1, 4, BITS, BIT, BIT, none, BIT), 14, AT + 13);
        CHECK.dueFault("the fourth", Inside.four(1, 4, BITS, BIT, BIT, BIT, none), 14, AT + 14);
        CHECK.dueFault("the fourth, which has no LITERALS", Inside.four(1, 3, BITS, BIT, BIT, BIT, none), 14, AT + 14);
        byte[] told = Make.packed(false, Make.coded(2, 0, 1, 3), BITS, BIT, NONE);
        CHECK.dueFault("behind no description", Make.join(Make.HEAD, told, Make.packed(true, Make.coded(3, 0, 1, 0), NONE)),
            14, AT + 7 + 3 + 3);
    }

    private static void lastByteIsNone() {
        CHECK.sentence("14 .. or its last one is 0");
        byte[] zero = Make.bytes(0);
        CHECK.dueFault("the only byte", Inside.one(1, BITS, zero), 14, AT + 5);
        CHECK.dueFault("the second of two", Inside.one(1, BITS, Make.bytes(3, 0)), 14, AT + 5);
        CHECK.dueFault("of no LITERALS", Inside.one(0, BITS, zero), 14, AT + 5);
        CHECK.dueContent("the first of two is 0", Inside.one(8, BITS, Make.bytes(0, 1)), new byte[8]);
        CHECK.dueFault("of the first", Inside.four(1, 4, BITS, zero, BIT, BIT, BIT), 14, AT + 11);
        CHECK.dueFault("of the second", Inside.four(1, 4, BITS, BIT, zero, BIT, BIT), 14, AT + 12);
        CHECK.dueFault("of the third", Inside.four(1, 4, BITS, BIT, BIT, zero, BIT), 14, AT + 13);
        CHECK.dueFault("of the fourth", Inside.four(1, 4, BITS, BIT, BIT, BIT, zero), 14, AT + 14);
    }

    private static void notJustItsBits() {
        CHECK.sentence("14 .. or its symbols do not read just its bits");
        CHECK.dueFault("a bit left", Inside.one(1, BITS, Make.stream(0, 2)), 14, AT + 5);
        CHECK.dueFault("8 bits left", Inside.one(1, BITS, Make.stream(0, 9)), 14, AT + 5);
        CHECK.dueFault("a bit lacks", Inside.one(3, BITS, Make.stream(0, 2)), 14, AT + 5);
        CHECK.dueFault("half a symbol", Inside.one(2, Inside.THREE, Make.stream(1, 1, 0, 1)), 14, AT + 5);
        CHECK.dueFault("a bit for none", Inside.one(0, BITS, BIT), 14, AT + 5);
        CHECK.dueFault("very many lack", Make.frame(Make.coded(2, 0, 1000, 3), BITS, Make.bytes(2), NONE), 14, AT + 5);
        byte[] two = Make.stream(3, 2);
        CHECK.dueFault("the first", Inside.four(1, 4, BITS, two, BIT, BIT, BIT), 14, AT + 11);
        CHECK.dueFault("the second", Inside.four(1, 4, BITS, BIT, two, BIT, BIT), 14, AT + 12);
        CHECK.dueFault("the third", Inside.four(1, 4, BITS, BIT, BIT, END, BIT), 14, AT + 13);
        CHECK.dueFault("the fourth", Inside.four(1, 4, BITS, BIT, BIT, BIT, END), 14, AT + 14);
        CHECK.dueFault("the fourth, which has no LITERALS", Inside.four(1, 3, BITS, BIT, BIT, BIT, BIT), 14, AT + 14);
    }

    private static void firstSuchOne() {
        CHECK.sentence("14 .. a stream (the first such one)");
        byte[] none = new byte[0];
        byte[] two = Make.stream(0, 10);
        CHECK.dueFault("the third, and the fourth", Inside.four(1, 4, BITS, BIT, BIT, Make.bytes(0), none), 14, AT + 13);
        CHECK.dueFault("bits left in the second, no byte in the third", Inside.four(1, 4, BITS, BIT, two, none, BIT), 14, AT + 12);
        CHECK.dueFault("bits left in the first, no byte in the fourth", Inside.four(1, 4, BITS, two, BIT, BIT, none), 14, AT + 11);
        CHECK.dueFault("all of them", Inside.four(1, 4, BITS, none, none, none, none), 14, AT + 11);
    }

    private static void moreThanMayBe() {
        CHECK.sentence("7 .. (.. of kind 2 .. the LITERALS when there are none)");
        StateFrames x = new StateFrames();
        byte[] three = Make.frame(Inside.ABC, NONE);
        CHECK.dueRead("just as many", x, three, 3, 3, three.length);
        CHECK.dueRead("one more", x, three, 2, -7, AT);
        CHECK.dueRead("none may be", x, three, 0, -7, AT);
        byte[] coded = Inside.one(3, BITS, Make.stream(0, 3));
        CHECK.dueRead("coded, one more", x, coded, 2, -7, AT);
        CHECK.dueRead("a fault of the sequences first", x, Make.frame(Inside.ABC, Make.bytes(0, 0)), 2, -15, AT + 7);
        CHECK.dueRead("32768 times", x, wide(Inside.times(3, 32768), NONE), 32767, -7, AT);
        CHECK.dueRead("32769 times", x, wide(Inside.times(3, 32769), NONE), 32768, -7, AT);
    }
}
