/** Promise 7: frames, spare bytes, plain blocks and sums, and the faults 1 to 9. */
public final class FrameTest {
    private static final Check CHECK = new Check("FrameTest");
    private static final byte[] MARK = Make.MARK;
    private static final byte[] ABC = Make.text("abc");
    private static final byte[] LAST_ABC = Make.raw(true, ABC);
    private static final byte[] EMPTY = Make.raw(true, new byte[0]);
    private static final byte[] NOTHING = new byte[0];

    /** The sums of the first n differing bytes, as the zstd tool (1.5.4) writes them. */
    private static final long[][] SUMS = {
        {0, 0x51D8E999L}, {1, 0xDB052768L}, {2, 0xA65E93DDL}, {3, 0xE4B3469AL}, {4, 0x6BD1AE90L},
        {5, 0xD03AF582L}, {7, 0x1A5AFC9BL}, {8, 0x2CB7B4D0L}, {9, 0x2914D838L}, {11, 0xA71DB1A7L},
        {12, 0xF6BE1370L}, {13, 0xA58D4453L}, {15, 0x9941BF49L}, {16, 0x35C498DAL}, {31, 0x99CBB32DL},
        {32, 0x734262DDL}, {33, 0x7E7FA007L}, {36, 0xCD40EFA7L}, {39, 0xC4C17FACL}, {40, 0x34E7AAB4L},
        {63, 0x2E4A451EL}, {64, 0x9FD250A1L}, {65, 0xAEDA9B5FL}, {95, 0xF87482B0L}, {96, 0xA49B72B6L},
        {100, 0xEE8A2178L}, {1000, 0x223C31A3L}, {11000, 0xEBB1563CL}};

    public static void main(String[] args) {
        marks();
        headSixteen();
        headEight();
        ids();
        noIds();
        wrongIds();
        sizesByBytes();
        sizeOfTwoBytes();
        noSize();
        sizeIsTheWindow();
        summedOrNot();
        mostOfABlockByWindow();
        mostOfABlock();
        kindNone();
        kindOne();
        emptyBlocks();
        lastBlock();
        kindThree();
        aboveMost();
        spareMarks();
        spareNumbers();
        endsWithin();
        endsWithinSpareBytes();
        notLookedAt();
        fewerThanFour();
        neither();
        moreThanMayBe();
        sumsByLength();
        wrongSums();
        wrongSizes();
        sizeAfterTheSum();
        CHECK.end();
    }

    private static byte[] frame(int... head) {
        return Make.join(MARK, Make.bytes(head));
    }

    private static void marks() {
        CHECK.sentence("A FRAME: the bytes 40, 181, 47, 253");
        CHECK.dueContent("right", Make.join(MARK, Make.bytes(0, 0), LAST_ABC), ABC);
        for (int k = 0; k < 4; k++) {
            for (int off : new int[] {-1, 1, 128}) {
                byte[] wrong = Make.join(Make.HEAD, LAST_ABC);
                wrong[k] += (byte) off;
                CHECK.dueFault("byte " + k + " off by " + off, wrong, 2, 0);
            }
        }
    }

    private static void headSixteen() {
        CHECK.sentence("16 (counts for nothing)");
        CHECK.dueContent("alone", Make.join(frame(16, 0), LAST_ABC), ABC);
        CHECK.dueContent("with SINGLE", Make.join(frame(48, 3), LAST_ABC), ABC);
    }

    private static void headEight() {
        CHECK.sentence("3 HEAD has 8.");
        CHECK.dueFault("alone", frame(8), 3, 4);
        CHECK.dueFault("with all others", Make.join(frame(255, 0, 0), LAST_ABC), 3, 4);
        CHECK.dueFault("and right otherwise", Make.join(frame(8, 0), LAST_ABC), 3, 4);
        CHECK.dueFault("in a second frame", Make.join(Make.HEAD, LAST_ABC, frame(8, 0)), 3, 16);
    }

    private static void ids() {
        CHECK.sentence("An ID of 0, 1, 2 or 4 bytes for g 0 .. 3");
        CHECK.dueContent("none", Make.join(frame(0, 0), LAST_ABC), ABC);
        CHECK.dueContent("1", Make.join(frame(1, 0, 0), LAST_ABC), ABC);
        CHECK.dueContent("2", Make.join(frame(2, 0, 0, 0), LAST_ABC), ABC);
        CHECK.dueContent("4", Make.join(frame(3, 0, 0, 0, 0, 0), LAST_ABC), ABC);
        CHECK.dueContent("4, with SINGLE", Make.join(frame(35, 0, 0, 0, 0, 3), LAST_ABC), ABC);
    }

    private static void noIds() {
        CHECK.sentence("(0 with none)");
        StateFrames x = new StateFrames();
        Check.put(x, Make.text("content alone"));
        CHECK.due("learn", x.learn(), 13);
        CHECK.dueContent("no ID, a DICTIONARY", x, Make.join(frame(0, 0), LAST_ABC), ABC);
        CHECK.dueContent("ID 0, a DICTIONARY", x, Make.join(frame(1, 0, 0), LAST_ABC), ABC);
        CHECK.dueContent("no ID, none", Make.join(frame(0, 0), LAST_ABC), ABC);
    }

    private static void wrongIds() {
        CHECK.sentence("4 an ID that is not 0 is not the DICTIONARY's (0 without one).");
        CHECK.dueFault("1", frame(1, 0, 1), 4, 6);
        CHECK.dueFault("255", Make.join(frame(1, 0, 255), LAST_ABC), 4, 6);
        CHECK.dueFault("256", Make.join(frame(2, 0, 0, 1), LAST_ABC), 4, 6);
        CHECK.dueFault("2^24", Make.join(frame(3, 0, 0, 0, 0, 1), LAST_ABC), 4, 6);
        CHECK.dueFault("2^32 - 1", Make.join(frame(3, 0, 255, 255, 255, 255), LAST_ABC), 4, 6);
        CHECK.dueFault("with SINGLE", frame(33, 9), 4, 5);
        CHECK.dueFault("in a second frame", Make.join(Make.HEAD, LAST_ABC, frame(1, 0, 1)), 4, 18);
    }

    private static void sizesByBytes() {
        CHECK.sentence("SIZE .. in 0 (with SINGLE 1), 2, 4 or 8 bytes for f 0 .. 3");
        CHECK.dueContent("0", Make.join(frame(0, 0), LAST_ABC), ABC);
        CHECK.dueContent("1 with SINGLE", Make.join(frame(32, 3), LAST_ABC), ABC);
        CHECK.dueContent("1 with SINGLE, the most", Make.join(frame(32, 255), Make.run(true, 1, 255)), Make.times(1, 255));
        CHECK.dueContent("1 with SINGLE, the least", Make.join(frame(32, 0), EMPTY), NOTHING);
        CHECK.dueContent("2", Make.join(frame(64, 0, 44, 0), Make.run(true, 1, 300)), Make.times(1, 300));
        CHECK.dueContent("4", Make.join(frame(128, 0, 3, 0, 0, 0), LAST_ABC), ABC);
        CHECK.dueContent("4 with SINGLE", Make.join(frame(160, 3, 0, 0, 0), LAST_ABC), ABC);
        CHECK.dueContent("4, the least", Make.join(frame(128, 0, 0, 0, 0, 0), EMPTY), NOTHING);
        CHECK.dueContent("8", Make.join(frame(192, 0), Make.number(3, 8), LAST_ABC), ABC);
        CHECK.dueContent("8 with SINGLE", Make.join(frame(224), Make.number(3, 8), LAST_ABC), ABC);
        CHECK.dueContent("8 behind an ID", Make.join(frame(195, 0, 0, 0, 0, 0), Make.number(3, 8), LAST_ABC), ABC);
        CHECK.dueContent("4, of 32,768", Make.join(frame(128, 80, 0, 128, 0, 0), Make.run(true, 1, 32768)), Make.times(1, 32768));
    }

    private static void sizeOfTwoBytes() {
        CHECK.sentence("with 2 bytes 256 more");
        CHECK.dueContent("0 is 256", Make.join(frame(64, 0, 0, 0), Make.run(true, 1, 256)), Make.times(1, 256));
        CHECK.dueContent("0 is 256 with SINGLE", Make.join(frame(96, 0, 0), Make.run(true, 1, 256)), Make.times(1, 256));
        CHECK.dueContent("255 is 511", Make.join(frame(64, 0, 255, 0), Make.run(true, 1, 511)), Make.times(1, 511));
        CHECK.dueContent("256 is 512", Make.join(frame(64, 0, 0, 1), Make.run(true, 1, 512)), Make.times(1, 512));
        CHECK.dueFault("0 is not 0", Make.join(frame(64, 0, 0, 0), EMPTY), 9, 6);
        StateFrames x = new StateFrames();
        CHECK.dueRead("the most", x, Make.join(frame(96, 255, 255), LAST_ABC), 9, -9, 5);
        CHECK.due("the most as WINDOW", x.about(5), 65535 + 256);
    }

    private static void noSize() {
        CHECK.sentence("SIZE .. in 0 .. bytes for f 0 (and any content)");
        CHECK.dueContent("of none", Make.join(frame(0, 0), EMPTY), NOTHING);
        CHECK.dueContent("of one", Make.join(frame(0, 0), Make.run(true, 8, 1)), Make.times(8, 1));
        CHECK.dueContent("of 1024", Make.join(frame(0, 0), Make.run(true, 8, 1024)), Make.times(8, 1024));
    }

    private static void sizeIsTheWindow() {
        CHECK.sentence("with SINGLE it is the WINDOW");
        CHECK.dueContent("a block of SIZE", Make.join(frame(32, 200), Make.run(true, 1, 200)), Make.times(1, 200));
        CHECK.dueFault("a block above it", Make.join(frame(32, 200), Make.run(true, 1, 201)), 6, 6);
        CHECK.dueFault("a SIZE of 0", Make.join(frame(32, 0), Make.run(true, 1, 1)), 6, 6);
        CHECK.dueFault("2 bytes: 257", Make.join(frame(96, 0, 0), Make.run(true, 1, 257)), 6, 7);
        CHECK.dueFault("8 bytes: 2^64 - 1", Make.join(frame(224), Make.number(-1, 8), LAST_ABC), 9, 5);
    }

    private static void summedOrNot() {
        CHECK.sentence("with SUMMED the lowest four bytes of the WIDE SUM of the content");
        byte[] sum = Make.bytes(0x99, 0x09, 0x77, 0xAD);
        CHECK.dueContent("abc", Make.join(frame(4, 0), LAST_ABC, sum), ABC);
        CHECK.dueContent("of a frame's own content", Make.join(Make.HEAD, LAST_ABC, frame(4, 0), LAST_ABC, sum), Make.text("abcabc"));
        CHECK.dueContent("of all its blocks", Make.join(frame(4, 0), Make.raw(false, Make.text("a")),
            Make.raw(false, Make.text("bc")), EMPTY, sum), ABC);
        byte[] summed = Make.join(frame(4, 0), LAST_ABC, sum);
        CHECK.dueContent("a frame behind it", Make.join(summed, summed, spare(80, 1, 1), summed), Make.text("abcabcabc"));
        CHECK.dueFault("none without SUMMED", Make.join(frame(0, 0), LAST_ABC, sum), 2, 12);
    }

    /** A block of kind 1 above MOST is fault 6; one that is not may still be more than OUT can have. */
    private static void dueMost(String what, byte[] head, int most) {
        int place = head.length;
        CHECK.dueFault(what + ": above it", Make.join(head, Make.run(true, 1, most + 1)), 6, place);
        byte[] just = Make.join(head, Make.run(true, 1, most));
        int answer = most > 32768 ? -7 : most;
        CHECK.dueRead(what + ": just so many", new StateFrames(), just, 32768, answer, answer < 0 ? place : just.length);
    }

    private static void mostOfABlockByWindow() {
        CHECK.sentence("MOST OF A BLOCK is .. the WINDOW if that is less");
        dueMost("1024", frame(0, 0), 1024);
        dueMost("1152", frame(0, 1), 1152);
        dueMost("1920", frame(0, 7), 1920);
        dueMost("2048", frame(0, 8), 2048);
        dueMost("32768", frame(0, 40), 32768);
        dueMost("122880", frame(0, 8 * 6 + 7), 122880);
        CHECK.dueFault("SINGLE, 131071: above it", Make.join(frame(160, 255, 255, 1, 0), Make.run(true, 1, 131072)), 6, 9);
        CHECK.dueFault("SINGLE, 131071", Make.join(frame(160, 255, 255, 1, 0), Make.run(true, 1, 131071)), 7, 9);
    }

    private static void mostOfABlock() {
        CHECK.sentence("MOST OF A BLOCK is 131072");
        dueMost("a WINDOW of 131072", frame(0, 56), 131072);
        dueMost("a WINDOW of 147456", frame(0, 57), 131072);
        dueMost("the greatest WINDOW", frame(0, 255), 131072);
        dueMost("SINGLE, 131073", frame(160, 1, 0, 2, 0), 131072);
        dueMost("SINGLE, 2^63", Make.join(frame(224), Make.number(1L << 63, 8)), 131072);
    }

    private static void kindNone() {
        CHECK.sentence("Kind 0: n bytes that stand for themselves.");
        CHECK.dueContent("one", Make.join(Make.HEAD, Make.raw(true, Make.bytes(200))), Make.bytes(200));
        CHECK.dueContent("1024", Make.join(Make.HEAD, Make.raw(true, Inside.differing(1024))), Inside.differing(1024));
        byte[] most = Inside.differing(12000 - 9);
        CHECK.dueContent("as many as IN can have", Make.join(Make.WIDE, Make.raw(true, most)), most);
    }

    private static void kindOne() {
        CHECK.sentence("1: a byte, n times.");
        CHECK.dueContent("once", Make.join(Make.HEAD, Make.run(true, 255, 1)), Make.bytes(255));
        CHECK.dueContent("1024 times", Make.join(Make.HEAD, Make.run(true, 0, 1024)), Make.times(0, 1024));
        CHECK.dueContent("32768 times", Make.join(Make.WIDE, Make.run(true, 129, 32768)), Make.times(129, 32768));
    }

    private static void emptyBlocks() {
        CHECK.sentence("A BLOCK: three bytes, 8 * n + .. (n being 0)");
        CHECK.dueContent("kind 0", Make.join(Make.HEAD, EMPTY), NOTHING);
        CHECK.dueContent("kind 1 has its byte", Make.join(Make.HEAD, Make.run(true, 200, 0)), NOTHING);
        CHECK.dueFault("kind 1 without its byte", Make.join(Make.HEAD, Make.blockHead(0, 1, true)), 1, 9);
        CHECK.dueFault("kind 2 has no LITERALS", Make.join(Make.HEAD, Make.blockHead(0, 2, true)), 10, 9);
        CHECK.dueContent("between others", Make.join(Make.HEAD, Make.raw(false, NOTHING), Make.run(false, 'x', 0), LAST_ABC), ABC);
    }

    private static void lastBlock() {
        CHECK.sentence("+ 1 if it is the last one");
        CHECK.dueContent("the third", Make.join(Make.HEAD, Make.raw(false, ABC), Make.run(false, 'x', 2), LAST_ABC),
            Make.text("abcxxabc"));
        CHECK.dueFault("none is", Make.join(Make.HEAD, Make.raw(false, ABC), Make.run(false, 'x', 2)), 1, 16);
        CHECK.dueFault("another behind it", Make.join(Make.HEAD, LAST_ABC, LAST_ABC), 2, 12);
    }

    private static void kindThree() {
        CHECK.sentence("5 a block's kind is 3.");
        CHECK.dueFault("of none", Make.join(Make.HEAD, Make.blockHead(0, 3, true)), 5, 6);
        CHECK.dueFault("of too many", Make.join(Make.HEAD, Make.blockHead(1025, 3, true)), 5, 6);
        CHECK.dueFault("of the most", Make.join(Make.HEAD, Make.bytes(255, 255, 255)), 5, 6);
        CHECK.dueFault("behind another", Make.join(Make.HEAD, Make.raw(false, ABC), Make.blockHead(1, 3, true)), 5, 12);
    }

    private static void aboveMost() {
        CHECK.sentence("6 its n is above MOST OF A BLOCK.");
        for (int kind = 0; kind < 3; kind++) {
            CHECK.dueFault("1025 of kind " + kind, Make.join(Make.HEAD, Make.blockHead(1025, kind, true)), 6, 6);
            CHECK.dueFault("1024 of kind " + kind, Make.join(Make.HEAD, Make.blockHead(1024, kind, true)), 1, 9);
            CHECK.dueFault("the most of kind " + kind, Make.join(Make.WIDE, Make.blockHead((1 << 21) - 1, kind, true)), 6, 6);
        }
        CHECK.dueFault("behind another", Make.join(Make.HEAD, Make.raw(false, ABC), Make.blockHead(1025, 1, true)), 6, 12);
        StateFrames x = new StateFrames();
        CHECK.dueRead("before 7", x, Make.join(Make.HEAD, Make.run(true, 1, 1025)), 0, -6, 6);
    }

    private static byte[] spare(int first, long number, int bytes) {
        return Make.join(Make.bytes(first, 42, 77, 24), Make.number(number, 4), Make.times(40, bytes));
    }

    private static void spareMarks() {
        CHECK.sentence("SPARE bytes: a byte 80 .. 95, 42, 77, 24");
        for (int first = 80; first <= 95; first++) {
            byte[] spare = spare(first, 2, 2);
            CHECK.dueContent("first " + first, Make.join(spare, Make.HEAD, LAST_ABC, spare), ABC);
        }
        CHECK.dueFault("79", spare(79, 0, 0), 2, 0);
        CHECK.dueFault("96", spare(96, 0, 0), 2, 0);
        CHECK.dueFault("208", spare(208, 0, 0), 2, 0);
        for (int k = 1; k < 4; k++) {
            for (int off : new int[] {-1, 1, 128}) {
                byte[] wrong = spare(80, 0, 0);
                wrong[k] += (byte) off;
                CHECK.dueFault("byte " + k + " off by " + off, wrong, 2, 0);
            }
        }
    }

    private static void spareNumbers() {
        CHECK.sentence("a number in 4 bytes, and as many bytes, which count for nothing");
        CHECK.dueContent("0", spare(80, 0, 0), NOTHING);
        CHECK.dueContent("1", spare(80, 1, 1), NOTHING);
        CHECK.dueContent("255", spare(80, 255, 255), NOTHING);
        CHECK.dueContent("256", spare(80, 256, 256), NOTHING);
        CHECK.dueContent("as many as IN can have", spare(95, 11992, 11992), NOTHING);
        CHECK.dueContent("frames among them", Make.join(spare(80, 12, 0), Make.HEAD, LAST_ABC), NOTHING);
        CHECK.dueFault("one fewer than there are", spare(80, 1, 5), 2, 9);
    }

    /** A frame that has all parts: IN that ends anywhere in it has fault 1 at its end. */
    private static void endsWithin() {
        CHECK.sentence("1 IN ends within a frame (PLACE: the end)");
        byte[] whole = Make.join(frame(4 + 3 + 128, 0, 0, 0, 0, 0), Make.number(5, 4), Make.raw(false, ABC),
            Make.run(false, 7, 1), Make.packed(true, Make.bytes(8, 'z', 0)), Make.number(0, 4));
        for (int n = 1; n < whole.length; n++) {
            CHECK.dueFault("cut at " + n, Make.first(whole, n), 1, n);
        }
        CHECK.dueFault("whole, but for its sum", whole, 8, whole.length - 4);
        byte[] single = Make.join(frame(32 + 192 + 1, 0), Make.number(3, 8), LAST_ABC);
        for (int n = 1; n < single.length; n++) {
            CHECK.dueFault("SINGLE, cut at " + n, Make.first(single, n), 1, n);
        }
        CHECK.dueContent("SINGLE, whole", single, ABC);
    }

    private static void endsWithinSpareBytes() {
        CHECK.sentence("1 IN ends within .. spare bytes (PLACE: the end)");
        byte[] whole = spare(87, 3, 3);
        for (int n = 1; n < whole.length; n++) {
            CHECK.dueFault("cut at " + n, Make.first(whole, n), 1, n);
        }
        CHECK.dueFault("one more than there are", spare(80, 11993, 11992), 1, 12000);
        CHECK.dueFault("2^8", spare(80, 1 << 8, 0), 1, 8);
        CHECK.dueFault("2^16", spare(80, 1 << 16, 0), 1, 8);
        CHECK.dueFault("2^24", spare(80, 1 << 24, 0), 1, 8);
        CHECK.dueFault("2^31, and nothing behind", spare(80, 1L << 31, 0), 1, 8);
        CHECK.dueFault("2^31 - 1", spare(80, Integer.MAX_VALUE, 1), 1, 9);
        CHECK.dueFault("2^31", spare(80, 1L << 31, 1), 1, 9);
        CHECK.dueFault("2^32 - 1", spare(80, -1, 1), 1, 9);
        CHECK.dueFault("2^32 - 8", spare(80, -8, 1), 1, 9);
    }

    private static void notLookedAt() {
        CHECK.sentence("a number, or a block's bytes, of which something lacks are not looked at");
        CHECK.dueFault("a wrong ID", frame(2, 0, 1), 1, 7);
        CHECK.dueFault("a wrong ID of four", frame(3, 0, 1, 1, 1), 1, 9);
        CHECK.dueFault("a block of kind 3", Make.join(Make.HEAD, Make.bytes(7, 0)), 1, 8);
        CHECK.dueFault("a block that is too large", Make.join(Make.HEAD, Make.bytes(1, 255)), 1, 8);
        CHECK.dueFault("spare bytes' number", Make.bytes(80, 42, 77, 24, 0, 0, 0), 1, 7);
        CHECK.dueFault("a wrong sum", Make.join(frame(4, 0), LAST_ABC, Make.bytes(1, 2, 3)), 1, 15);
        CHECK.dueFault("LITERALS", Make.first(Make.frame(Make.bytes(3, 0, 0, 0)), 12), 1, 12);
        StateFrames x = new StateFrames();
        CHECK.dueRead("more than may be", x, Make.first(Make.join(Make.HEAD, LAST_ABC), 11), 0, -1, 11);
        CHECK.dueRead("more than may be of kind 1", x, Make.join(Make.HEAD, Make.blockHead(3, 1, true)), 0, -1, 9);
    }

    private static void fewerThanFour() {
        CHECK.sentence("with fewer than four bytes at a beginning, too");
        for (int n = 1; n < 4; n++) {
            CHECK.dueFault(n + " of a mark", Make.first(MARK, n), 1, n);
            CHECK.dueFault(n + " of no mark", Make.times(1, n), 1, n);
            CHECK.dueFault(n + " of spare bytes", Make.first(spare(80, 0, 0), n), 1, n);
            CHECK.dueFault(n + " behind a frame", Make.join(Make.HEAD, LAST_ABC, Make.times(0, n)), 1, 12 + n);
            CHECK.dueFault(n + " behind spare bytes", Make.join(spare(80, 0, 0), Make.times(0, n)), 1, 8 + n);
        }
        CHECK.dueContent("none", NOTHING, NOTHING);
    }

    private static void neither() {
        CHECK.sentence("2 neither a frame nor spare bytes begin there.");
        CHECK.dueFault("four bytes", Make.bytes(1, 2, 3, 4), 2, 0);
        CHECK.dueFault("a dictionary", Make.bytes(55, 164, 48, 236), 2, 0);
        CHECK.dueFault("the other order", Make.bytes(253, 47, 181, 40), 2, 0);
        CHECK.dueFault("behind a frame", Make.join(Make.HEAD, LAST_ABC, Make.bytes(0, 0, 0, 0)), 2, 12);
        CHECK.dueFault("behind spare bytes", Make.join(spare(80, 1, 1), Make.bytes(0, 0, 0, 0)), 2, 9);
        CHECK.dueFault("a byte between frames", Make.join(Make.HEAD, LAST_ABC, Make.bytes(0), Make.HEAD, LAST_ABC), 2, 12);
    }

    private static void moreThanMayBe() {
        CHECK.sentence("7 the content of all frames comes to more bytes than may be (the block)");
        StateFrames x = new StateFrames();
        byte[] raw = Make.join(Make.HEAD, Make.raw(false, ABC), LAST_ABC);
        CHECK.dueRead("kind 0, just so many", x, raw, 6, 6, raw.length);
        CHECK.dueRead("kind 0, one more", x, raw, 5, -7, 12);
        byte[] run = Make.join(Make.HEAD, Make.run(false, 1, 3), Make.run(true, 1, 3));
        CHECK.dueRead("kind 1, just so many", x, run, 6, 6, run.length);
        CHECK.dueRead("kind 1, one more", x, run, 5, -7, 10);
        CHECK.dueRead("of two frames, just so many", x, Make.join(raw, run), 12, 12, raw.length + run.length);
        CHECK.dueRead("of two frames, one more", x, Make.join(raw, run), 11, -7, raw.length + 10);
        CHECK.dueRead("131072", x, Make.join(Make.WIDE, Make.run(true, 1, 131072)), 32768, -7, 6);
    }

    private static void sumsByLength() {
        CHECK.sentence("THE WIDE SUM of n bytes (n at least 32, less, 8 left, 4 left, for each byte)");
        for (long[] sum : SUMS) {
            int n = (int) sum[0];
            byte[] bytes = Inside.differing(n);
            byte[] all = Make.join(frame(4, 80), Make.raw(true, bytes), Make.number(sum[1], 4));
            CHECK.dueContent("the sum of " + n, all, bytes);
            CHECK.dueContent("the sum of " + n + " in a second frame", Make.join(Make.HEAD, Make.run(true, 1, 7), all),
                Make.join(Make.times(1, 7), bytes));
        }
        CHECK.dueContent("the sum of 32768", Make.join(frame(4, 80), Make.run(true, 200, 32768),
            Make.number(0x9CF0A9CEL, 4)), Make.times(200, 32768));
    }

    private static void wrongSums() {
        CHECK.sentence("8 the sum.");
        byte[] right = Make.bytes(0x99, 0x09, 0x77, 0xAD);
        for (int k = 0; k < 4; k++) {
            for (int bit : new int[] {1, 16, 128}) {
                byte[] off = right.clone();
                off[k] ^= (byte) bit;
                CHECK.dueFault("byte " + k + " off by " + bit, Make.join(frame(4, 0), LAST_ABC, off), 8, 12);
            }
        }
        CHECK.dueFault("of no content", Make.join(frame(4, 0), EMPTY, Make.number(0, 4)), 8, 9);
    }

    private static void wrongSizes() {
        CHECK.sentence("9 SIZE is not the content's");
        CHECK.dueFault("one less", Make.join(frame(32, 4), LAST_ABC), 9, 5);
        CHECK.dueFault("one more", Make.join(frame(128, 0, 2, 0, 0, 0), LAST_ABC), 9, 6);
        CHECK.dueFault("one more than none", Make.join(frame(128, 0, 0, 0, 0, 0), Make.run(true, 1, 1)), 9, 6);
        CHECK.dueFault("one less of two bytes", Make.join(frame(64, 0, 1, 0), Make.run(true, 1, 256)), 9, 6);
        CHECK.dueFault("none of one", Make.join(frame(32, 1), EMPTY), 9, 5);
        CHECK.dueFault("behind an ID", Make.join(frame(130, 0, 0, 0, 4, 0, 0, 0), LAST_ABC), 9, 8);
        CHECK.dueFault("2^16 more", Make.join(frame(128, 0, 3, 0, 1, 0), LAST_ABC), 9, 6);
        CHECK.dueFault("2^32 more", Make.join(frame(192, 0), Make.number(3 + (1L << 32), 8), LAST_ABC), 9, 6);
        CHECK.dueFault("2^63 more", Make.join(frame(224), Make.number(3 + (1L << 63), 8), LAST_ABC), 9, 5);
        byte[] first = Make.join(Make.HEAD, LAST_ABC);
        CHECK.dueFault("of all frames", Make.join(first, frame(32, 6), LAST_ABC), 9, 17);
        CHECK.dueContent("of its frame", Make.join(first, frame(32, 3), LAST_ABC), Make.text("abcabc"));
    }

    private static void sizeAfterTheSum() {
        CHECK.sentence("9 .. (after the sum)");
        byte[] right = Make.bytes(0x99, 0x09, 0x77, 0xAD);
        CHECK.dueFault("both off", Make.join(frame(36, 4), LAST_ABC, Make.number(0, 4)), 8, 12);
        CHECK.dueFault("SIZE off", Make.join(frame(36, 4), LAST_ABC, right), 9, 5);
        CHECK.dueFault("SIZE off, the sum lacks", Make.join(frame(36, 4), LAST_ABC), 1, 12);
        CHECK.dueFault("SIZE off, the sum lacks a byte", Make.join(frame(36, 4), LAST_ABC, Make.first(right, 3)), 1, 15);
        CHECK.dueContent("both right", Make.join(frame(36, 3), LAST_ABC, right), ABC);
    }
}
