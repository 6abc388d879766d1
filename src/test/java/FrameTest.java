/** Promise 7: frames, spare bytes and plain blocks, and the faults 1 to 9. */
public final class FrameTest {
    private static final Check CHECK = new Check("FrameTest");
    private static final byte[] MARK = Make.bytes(40, 181, 47, 253);
    private static final byte[] ABC = Make.text("abc");
    private static final byte[] LAST_ABC = Make.raw(true, ABC);

    public static void main(String[] args) {
        plainBlocks();
        marks();
        spareBytes();
        cutAnywhere();
        heads();
        ids();
        sizes();
        sums();
        blocks();
        most();
        outStays();
        CHECK.end();
    }

    private static void plainBlocks() {
        CHECK.dueContent("no byte", Make.join(Make.HEAD, Make.raw(true, new byte[0])), new byte[0]);
        CHECK.dueContent("three bytes", Make.join(Make.HEAD, LAST_ABC), ABC);
        CHECK.dueContent("a run", Make.join(Make.HEAD, Make.run(true, 200, 1000)), Make.times(200, 1000));
        CHECK.dueContent("a run of none", Make.join(Make.HEAD, Make.run(true, 200, 0)), new byte[0]);
        CHECK.dueContent("three blocks",
            Make.join(Make.HEAD, Make.raw(false, ABC), Make.run(false, 'x', 2), LAST_ABC),
            Make.text("abcxxabc"));
        CHECK.dueContent("two frames", Make.join(Make.HEAD, LAST_ABC, Make.HEAD, Make.run(true, 'y', 3)),
            Make.text("abcyyy"));
    }

    private static void marks() {
        CHECK.dueFault("one byte", Make.bytes(40), 1, 1);
        CHECK.dueFault("three bytes of no mark", Make.bytes(1, 2, 3), 1, 3);
        CHECK.dueFault("four bytes of no mark", Make.bytes(1, 2, 3, 4), 2, 0);
        CHECK.dueFault("a mark that is off", Make.bytes(40, 181, 47, 252, 0, 0), 2, 0);
        CHECK.dueFault("no mark behind a frame", Make.join(Make.HEAD, LAST_ABC, Make.bytes(0, 0, 0, 0)), 2, 12);
        CHECK.dueFault("less than a mark behind a frame", Make.join(Make.HEAD, LAST_ABC, Make.bytes(0, 0)), 1, 14);
    }

    private static void spareBytes() {
        for (int first = 80; first <= 95; first++) {
            byte[] spare = Make.bytes(first, 42, 77, 24, 2, 0, 0, 0, 9, 9);
            CHECK.dueContent("spare " + first, Make.join(spare, Make.HEAD, LAST_ABC, spare), ABC);
        }
        CHECK.dueContent("spare bytes of none", Make.bytes(80, 42, 77, 24, 0, 0, 0, 0), new byte[0]);
        CHECK.dueFault("79", Make.bytes(79, 42, 77, 24, 0, 0, 0, 0), 2, 0);
        CHECK.dueFault("96", Make.bytes(96, 42, 77, 24, 0, 0, 0, 0), 2, 0);
        CHECK.dueFault("not 24", Make.bytes(80, 42, 77, 25, 0, 0, 0, 0), 2, 0);
        CHECK.dueFault("their number lacks", Make.bytes(80, 42, 77, 24, 0, 0, 0), 1, 7);
        CHECK.dueFault("they lack", Make.bytes(80, 42, 77, 24, 3, 0, 0, 0, 1, 1), 1, 10);
        CHECK.dueFault("very many", Make.bytes(80, 42, 77, 24, 255, 255, 255, 255, 1), 1, 9);
        CHECK.dueFault("2^31 of them", Make.bytes(80, 42, 77, 24, 0, 0, 0, 128, 1), 1, 9);
    }

    /** IN that ends anywhere within a frame has fault 1 at its end. */
    private static void cutAnywhere() {
        byte[] whole = Make.join(MARK, Make.bytes(4 + 3 + 2 * 64, 0), Make.number(0, 4), Make.number(5, 4 - 2),
            Make.number(0, 2), Make.raw(false, ABC), Make.run(false, 7, 1), Make.packed(true, Make.bytes(8, 'z', 0)),
            Make.number(0, 4));
        for (int n = 1; n < whole.length; n++) {
            CHECK.dueFault("cut at " + n, Make.first(whole, n), 1, n);
        }
    }

    private static void heads() {
        CHECK.dueFault("HEAD has 8", Make.join(MARK, Make.bytes(8)), 3, 4);
        CHECK.dueFault("HEAD has all", Make.join(MARK, Make.bytes(255, 0, 0)), 3, 4);
        CHECK.dueContent("HEAD has 16", Make.join(MARK, Make.bytes(16, 0), LAST_ABC), ABC);
        CHECK.dueFault("8 in a second frame", Make.join(Make.HEAD, LAST_ABC, MARK, Make.bytes(8, 0)), 3, 16);
    }

    private static void ids() {
        CHECK.dueContent("ID 0 in a byte", Make.join(MARK, Make.bytes(1, 0, 0), LAST_ABC), ABC);
        CHECK.dueContent("ID 0 in two", Make.join(MARK, Make.bytes(2, 0, 0, 0), LAST_ABC), ABC);
        CHECK.dueContent("ID 0 in four", Make.join(MARK, Make.bytes(3, 0, 0, 0, 0, 0), LAST_ABC), ABC);
        CHECK.dueFault("ID 1", Make.join(MARK, Make.bytes(1, 0, 1)), 4, 6);
        CHECK.dueFault("ID 256", Make.join(MARK, Make.bytes(2, 0, 0, 1), LAST_ABC), 4, 6);
        CHECK.dueFault("ID 2^24", Make.join(MARK, Make.bytes(3, 0, 0, 0, 0, 1), LAST_ABC), 4, 6);
        CHECK.dueFault("an ID with SINGLE", Make.join(MARK, Make.bytes(33, 9)), 4, 5);
        CHECK.dueFault("an ID that lacks a byte", Make.join(MARK, Make.bytes(2, 0, 1)), 1, 7);
    }

    private static void sizes() {
        byte[] run = Make.run(true, 1, 300);
        CHECK.dueContent("1 byte", Make.join(MARK, Make.bytes(32, 3), LAST_ABC), ABC);
        CHECK.dueContent("2 bytes", Make.join(MARK, Make.bytes(64, 0, 44, 0), run), Make.times(1, 300));
        CHECK.dueContent("2 bytes, SINGLE", Make.join(MARK, Make.bytes(96, 44, 0), run), Make.times(1, 300));
        CHECK.dueContent("4 bytes", Make.join(MARK, Make.bytes(128, 0, 3, 0, 0, 0), LAST_ABC), ABC);
        CHECK.dueContent("8 bytes", Make.join(MARK, Make.bytes(192, 0), Make.number(3, 8), LAST_ABC), ABC);
        CHECK.dueContent("SINGLE of none", Make.join(MARK, Make.bytes(32, 0), Make.raw(true, new byte[0])), new byte[0]);
        CHECK.dueFault("SINGLE of none with a byte", Make.join(MARK, Make.bytes(32, 0), Make.run(true, 1, 1)), 6, 6);
        CHECK.dueFault("less than told", Make.join(MARK, Make.bytes(32, 4), LAST_ABC), 9, 5);
        CHECK.dueFault("less than told, behind an ID", Make.join(MARK, Make.bytes(128 + 2, 0, 0, 0, 4, 0, 0, 0), LAST_ABC), 9, 8);
        CHECK.dueFault("more than told", Make.join(MARK, Make.bytes(128, 0, 2, 0, 0, 0), LAST_ABC), 9, 6);
        CHECK.dueFault("2^32 more", Make.join(MARK, Make.bytes(192, 0), Make.number(3 + (1L << 32), 8), LAST_ABC), 9, 6);
        CHECK.dueFault("2^63 more", Make.join(MARK, Make.bytes(224), Make.number(3 + (1L << 63), 8), LAST_ABC), 9, 5);
        CHECK.dueFault("2 bytes of 0 tell 256", Make.join(MARK, Make.bytes(64, 0, 0, 0), Make.raw(true, new byte[0])), 9, 6);
    }

    private static void sums() {
        byte[] right = Make.bytes(0x99, 0x09, 0x77, 0xAD);
        CHECK.dueContent("the sum of abc", Make.join(MARK, Make.bytes(4, 0), LAST_ABC, right), ABC);
        CHECK.dueContent("the sum of nothing", Make.join(MARK, Make.bytes(4, 0), Make.raw(true, new byte[0]),
            Make.bytes(0x99, 0xE9, 0xD8, 0x51)), new byte[0]);
        CHECK.dueContent("a frame's own sum",
            Make.join(Make.HEAD, LAST_ABC, MARK, Make.bytes(4, 0), LAST_ABC, right), Make.text("abcabc"));
        for (int k = 0; k < 4; k++) {
            byte[] off = right.clone();
            off[k] ^= 16;
            CHECK.dueFault("byte " + k + " off", Make.join(MARK, Make.bytes(4, 0), LAST_ABC, off), 8, 12);
        }
        CHECK.dueFault("sum and SIZE off", Make.join(MARK, Make.bytes(36, 4), LAST_ABC, Make.number(0, 4)), 8, 12);
        CHECK.dueFault("SIZE off, the sum right", Make.join(MARK, Make.bytes(36, 4), LAST_ABC, right), 9, 5);
        CHECK.dueFault("SIZE off, the sum lacks", Make.join(MARK, Make.bytes(36, 4), LAST_ABC), 1, 12);
    }

    private static void blocks() {
        CHECK.dueFault("kind 3", Make.join(Make.HEAD, Make.blockHead(0, 3, true)), 5, 6);
        CHECK.dueFault("kind 3 of too many", Make.join(Make.HEAD, Make.blockHead(2000, 3, true)), 5, 6);
        CHECK.dueFault("kind 3 behind another", Make.join(Make.HEAD, Make.raw(false, ABC), Make.blockHead(1, 3, true)), 5, 12);
        for (int kind = 0; kind < 3; kind++) {
            CHECK.dueFault("1025 of kind " + kind, Make.join(Make.HEAD, Make.blockHead(1025, kind, true)), 6, 6);
            CHECK.dueFault("1024 of kind " + kind, Make.join(Make.HEAD, Make.blockHead(1024, kind, true)), 1, 9);
        }
        byte[] wide = Make.join(MARK, Make.bytes(0, 80));
        CHECK.dueFault("131073 of a wide WINDOW", Make.join(wide, Make.blockHead(131073, 1, true)), 6, 6);
        CHECK.dueFault("131072 of a wide WINDOW", Make.join(wide, Make.run(true, 1, 131072)), 7, 6);
        CHECK.dueContent("32768 of a wide WINDOW", Make.join(wide, Make.run(true, 1, 32768)), Make.times(1, 32768));
        CHECK.dueFault("256 with a SIZE of 255", Make.join(MARK, Make.bytes(32, 255), Make.run(true, 1, 256)), 6, 6);
        byte[] eighths = Make.join(MARK, Make.bytes(0, 3));
        CHECK.dueFault("1409 of 1408", Make.join(eighths, Make.run(true, 1, 1409)), 6, 6);
        CHECK.dueContent("1408 of 1408", Make.join(eighths, Make.run(true, 1, 1408)), Make.times(1, 1408));
    }

    private static void most() {
        byte[] two = Make.join(Make.HEAD, Make.raw(false, ABC), LAST_ABC, Make.HEAD, Make.run(true, 'x', 4));
        StateFrames x = new StateFrames();
        CHECK.dueRead("just as many", x, two, 10, 10, two.length);
        CHECK.dueRead("one fewer", x, two, 9, -7, 24);
        CHECK.dueRead("too few for a second block", x, two, 5, -7, 12);
        CHECK.dueRead("too few for a block", x, two, 2, -7, 6);
        CHECK.dueRead("none", x, two, 0, -7, 6);
        CHECK.dueRead("a block that lacks a byte first", x, Make.first(two, 11), 0, -1, 11);
        byte[] none = Make.join(Make.HEAD, Make.raw(true, new byte[0]));
        CHECK.dueRead("none of none", x, none, 0, 0, none.length);
        CHECK.due("refused -1", x.read(-1), -40);
        CHECK.due("refused 32769", x.read(32769), -40);
        CHECK.due("refused the least", x.read(Integer.MIN_VALUE), -40);
        CHECK.due("refused the most", x.read(Integer.MAX_VALUE), -40);
    }

    private static void outStays() {
        StateFrames x = new StateFrames();
        CHECK.dueContent("first", x, Make.join(Make.HEAD, LAST_ABC), ABC);
        CHECK.dueRead("a fault", x, Make.join(Make.HEAD, Make.run(false, 1, 100)), 32768, -1, 10);
        CHECK.dueOut("OUT behind a fault", x, ABC);
        CHECK.due("refused", x.read(-1), -40);
        CHECK.dueOut("OUT behind a refusal", x, ABC);
        CHECK.due("IN is still there", x.read(100), -1);
    }
}
