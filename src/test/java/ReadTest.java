/** Promise 7: what read() answers and changes; what it reads is tested by the others. */
public final class ReadTest {
    private static final Check CHECK = new Check("ReadTest");
    private static final byte[] ABC = Make.text("abc");
    private static final byte[] ABC_FRAME = Make.join(Make.HEAD, Make.raw(true, ABC));
    private static final byte[] SPARE = Make.bytes(80, 42, 77, 24, 1, 0, 0, 0, 40);

    /** Two blocks of three bytes each, and a second frame of four; its block stands at 24. */
    private static final byte[] TEN = Make.join(Make.HEAD, Make.raw(false, ABC), Make.raw(true, ABC),
        Make.HEAD, Make.run(true, 'x', 4));

    public static void main(String[] args) {
        oneBehindTheOther();
        nothingToRead();
        atMostSoMany();
        atMostNone();
        outBecomesContent();
        placeTheEnd();
        outStaysByFault();
        refused();
        refusedChangesNothing();
        inStays();
        CHECK.end();
    }

    private static void oneBehindTheOther() {
        CHECK.sentence("Reads IN as frames and spare bytes, one behind the other");
        byte[] empty = Make.join(Make.HEAD, Make.raw(true, new byte[0]));
        CHECK.dueContent("one frame", ABC_FRAME, ABC);
        CHECK.dueContent("two frames", Make.join(ABC_FRAME, ABC_FRAME), Make.text("abcabc"));
        CHECK.dueContent("spare bytes alone", SPARE, new byte[0]);
        CHECK.dueContent("spare bytes around", Make.join(SPARE, SPARE, ABC_FRAME, SPARE, ABC_FRAME, SPARE),
            Make.text("abcabc"));
        CHECK.dueContent("frames without content", Make.join(empty, empty, ABC_FRAME, empty), ABC);
        StateFrames x = new StateFrames();
        Check.put(x, empty);
        CHECK.due("as many as IN can have", x.again(9, 1332), true);
        CHECK.due("their content", x.read(0), 0);
        CHECK.due("their heads", x.about(1), 1333);
    }

    private static void nothingToRead() {
        CHECK.sentence("Reads IN (empty) .. OUT becomes their content, PLACE the end: how many");
        StateFrames x = new StateFrames();
        CHECK.dueContent("something first", x, ABC_FRAME, ABC);
        CHECK.dueRead("nothing", x, new byte[0], 0, 0, 0);
        CHECK.dueOut("nothing", x, new byte[0]);
    }

    private static void atMostSoMany() {
        CHECK.sentence("of at most so many bytes of content in all");
        StateFrames x = new StateFrames();
        CHECK.dueRead("just as many", x, TEN, 10, 10, TEN.length);
        CHECK.dueRead("one more than they are", x, TEN, 11, 10, TEN.length);
        CHECK.dueRead("one fewer", x, TEN, 9, -7, 24);
        CHECK.dueRead("none for the second frame", x, TEN, 6, -7, 24);
        CHECK.dueRead("one fewer than the second block needs", x, TEN, 5, -7, 12);
        CHECK.dueRead("none for the second block", x, TEN, 3, -7, 12);
        CHECK.dueRead("one fewer than the first block needs", x, TEN, 2, -7, 6);
    }

    private static void atMostNone() {
        CHECK.sentence("of at most so many (0) bytes of content in all");
        StateFrames x = new StateFrames();
        byte[] empty = Make.join(Make.HEAD, Make.run(false, 5, 0), Make.raw(true, new byte[0]));
        CHECK.dueRead("frames of none", x, Make.join(empty, SPARE, empty), 0, 0, 2 * empty.length + 9);
        CHECK.dueRead("a frame of three", x, ABC_FRAME, 0, -7, 6);
        CHECK.dueRead("a run of one", x, Make.join(Make.HEAD, Make.run(true, 5, 1)), 0, -7, 6);
    }

    private static void outBecomesContent() {
        CHECK.sentence("OUT becomes their content .. how many");
        StateFrames x = new StateFrames();
        CHECK.dueContent("ten", x, TEN, Make.text("abcabcxxxx"));
        CHECK.dueContent("then three", x, ABC_FRAME, ABC);
        CHECK.dueContent("then none", x, SPARE, new byte[0]);
        CHECK.dueContent("then three again", x, ABC_FRAME, ABC);
    }

    private static void placeTheEnd() {
        CHECK.sentence("PLACE the end");
        StateFrames x = new StateFrames();
        CHECK.dueRead("a frame", x, ABC_FRAME, 3, 3, ABC_FRAME.length);
        CHECK.dueRead("spare bytes behind it", x, Make.join(ABC_FRAME, SPARE), 3, 3, ABC_FRAME.length + 9);
        byte[] full = Make.join(Make.WIDE, Make.raw(true, Make.times(1, 12000 - 9)));
        CHECK.dueRead("a full IN", x, full, 32768, 11991, 12000);
    }

    private static void outStaysByFault() {
        CHECK.sentence("or 0 less the fault's number, and OUT stays");
        StateFrames x = new StateFrames();
        CHECK.dueContent("three first", x, ABC_FRAME, ABC);
        CHECK.dueRead("100 come, then a fault", x, Make.join(Make.HEAD, Make.run(false, 1, 100)), 32768, -1, 10);
        CHECK.dueOut("100 come, then a fault", x, ABC);
        CHECK.dueRead("a frame, then a fault", x, Make.join(TEN, Make.bytes(1, 2, 3, 4)), 32768, -2, TEN.length);
        CHECK.dueOut("a frame, then a fault", x, ABC);
        CHECK.dueRead("a fault at once", x, Make.bytes(1), 32768, -1, 1);
        CHECK.dueOut("a fault at once", x, ABC);
        StateFrames y = new StateFrames();
        CHECK.dueRead("a fault on a new object", y, Make.join(TEN, Make.bytes(1)), 32768, -1, TEN.length + 1);
        CHECK.dueOut("a fault on a new object", y, new byte[0]);
    }

    private static void refused() {
        CHECK.sentence("-40, refused, when most is not 0 .. 32,768.");
        StateFrames x = new StateFrames();
        for (int most : new int[] {-1, -3, 32769, 65536, Integer.MIN_VALUE, Integer.MAX_VALUE}) {
            CHECK.due("read(" + most + ") of nothing", x.read(most), -40);
        }
        Check.put(x, ABC_FRAME);
        for (int most : new int[] {-1, 32769, Integer.MIN_VALUE, Integer.MAX_VALUE}) {
            CHECK.due("read(" + most + ")", x.read(most), -40);
        }
        CHECK.due("read(32768)", x.read(32768), 3);
        CHECK.due("read(0)", x.read(0), -7);
    }

    private static void refusedChangesNothing() {
        CHECK.sentence("-40, refused (and nothing changes)");
        StateFrames x = new StateFrames();
        CHECK.dueContent("three first", x, ABC_FRAME, ABC);
        Check.put(x, Make.bytes(1, 2, 3, 4));
        CHECK.due("read(-1)", x.read(-1), -40);
        CHECK.due("read(32769)", x.read(32769), -40);
        CHECK.dueOut("OUT", x, ABC);
        CHECK.due("PLACE", x.about(0), ABC_FRAME.length);
        CHECK.due("heads", x.about(1), 1);
        CHECK.due("content", x.about(4), 3);
        CHECK.due("IN is still there", x.read(3), -2);
    }

    private static void inStays() {
        CHECK.sentence("Reads IN (which stays)");
        StateFrames x = new StateFrames();
        Check.put(x, ABC_FRAME);
        CHECK.due("once", x.read(3), 3);
        CHECK.due("a fault", x.read(2), -7);
        CHECK.due("twice", x.read(3), 3);
        CHECK.due("one frame more", x.again(ABC_FRAME.length, 1), true);
        CHECK.due("both", x.read(6), 6);
        CHECK.dueOut("both", x, Make.text("abcabc"));
    }
}
