/** Promise 8: what about() tells. */
public final class AboutTest {
    private static final Check CHECK = new Check("AboutTest");
    private static final byte[] LAST_ABC = Make.raw(true, Make.text("abc"));
    private static final byte[] ABC_FRAME = Make.join(Make.HEAD, LAST_ABC);
    private static final byte[] SPARE = Make.bytes(80, 42, 77, 24, 1, 0, 0, 0, 0);
    private static final int PLACE = 0;
    private static final int HEADS = 1;
    private static final int BLOCKS = 2;
    private static final int SEQUENCES = 3;
    private static final int CONTENT = 4;
    private static final int WINDOW = 5;
    private static final int INT_MOST = Integer.MAX_VALUE;

    public static void main(String[] args) {
        latestRead();
        latestNotRefused();
        noReadYet();
        places();
        heads();
        blocks();
        sequences();
        content();
        windows();
        windowOfTheLastThatToldOne();
        noWindow();
        windowAtMost();
        dictionary();
        noDictionary();
        anotherWhat();
        CHECK.end();
    }

    /** Reads bytes on a new object, at most 100 of content, and asks what it tells. */
    private static void due(String how, byte[] bytes, int what, int want) {
        StateFrames x = new StateFrames();
        Check.put(x, bytes);
        x.read(100);
        CHECK.due(how + ": about " + what, x.about(what), want);
    }

    private static void dueAll(String how, StateFrames x, int... due) {
        for (int what = 0; what < due.length; what++) {
            CHECK.due(how + ": about " + what, x.about(what), due[what]);
        }
    }

    private static void latestRead() {
        CHECK.sentence("Of the latest read() that was not refused");
        StateFrames x = new StateFrames();
        byte[] copies = Make.packed(true, Make.bytes(24, 'a', 'b', 'c', 2, 84, 1, 2, 0), Make.stream(0, 2, 0, 2));
        byte[] all = Make.join(Make.HEAD, Make.raw(false, Make.text("xy")), copies, SPARE, Make.HEAD, LAST_ABC);
        Check.put(x, all);
        x.read(100);
        dueAll("two frames", x, all.length, 2, 3, 2, 2 + 9 + 3, 1024);
        x.read(13);
        dueAll("a fault", x, all.length - 6, 2, 3, 2, 2 + 9, 1024);
        x.clear();
        x.read(0);
        dueAll("nothing", x, 0, 0, 0, 0, 0, 0);
        CHECK.dueRead("one frame", x, ABC_FRAME, 100, 3, 12);
        dueAll("one frame", x, 12, 1, 1, 0, 3, 1024);
    }

    private static void latestNotRefused() {
        CHECK.sentence("(the latest read()) that was not refused");
        StateFrames x = new StateFrames();
        CHECK.dueRead("one frame", x, ABC_FRAME, 3, 3, 12);
        x.write(0L, 8);
        CHECK.due("read(-1)", x.read(-1), -40);
        CHECK.due("read(32769)", x.read(32769), -40);
        dueAll("refused", x, 12, 1, 1, 0, 3, 1024, 0, 0);
        CHECK.due("a fault", x.read(3), -2);
        CHECK.due("read(-1)", x.read(-1), -40);
        dueAll("refused behind a fault", x, 12, 1, 1, 0, 3, 1024, 0, 0);
    }

    private static void noReadYet() {
        CHECK.sentence("Of the latest read() (there being none)");
        StateFrames x = new StateFrames();
        dueAll("new", x, 0, 0, 0, 0, 0, 0, 0, 0);
        x.write(0L, 8);
        CHECK.due("read(-1)", x.read(-1), -40);
        dueAll("refused only", x, 0, 0, 0, 0, 0, 0, 0, 0);
    }

    private static void places() {
        CHECK.sentence("PLACE (what 0)");
        due("nothing", new byte[0], PLACE, 0);
        due("one frame", ABC_FRAME, PLACE, 12);
        due("no mark", Make.bytes(1, 2, 3, 4, 5), PLACE, 0);
        due("no mark behind a frame", Make.join(ABC_FRAME, Make.bytes(1, 2, 3, 4, 5)), PLACE, 12);
        due("the end", Make.join(ABC_FRAME, Make.bytes(1, 2)), PLACE, 14);
        due("the SIZE", Make.join(Make.MARK, Make.bytes(32, 4), LAST_ABC), PLACE, 5);
    }

    private static void heads() {
        CHECK.sentence("how many frames' HEADS were looked at (1)");
        due("nothing", new byte[0], HEADS, 0);
        due("three bytes of a mark", Make.first(Make.MARK, 3), HEADS, 0);
        due("no mark", Make.bytes(1, 2, 3, 4, 5), HEADS, 0);
        due("no HEAD", Make.MARK, HEADS, 0);
        due("HEAD alone", Make.join(Make.MARK, Make.bytes(0)), HEADS, 1);
        due("HEAD has 8", Make.join(Make.MARK, Make.bytes(8, 0)), HEADS, 1);
        due("spare bytes", SPARE, HEADS, 0);
        due("two frames and spare bytes", Make.join(ABC_FRAME, SPARE, ABC_FRAME), HEADS, 2);
        due("a second one without HEAD", Make.join(ABC_FRAME, Make.MARK), HEADS, 1);
        due("a second one that has 8", Make.join(ABC_FRAME, Make.MARK, Make.bytes(8)), HEADS, 2);
    }

    private static void blocks() {
        CHECK.sentence("blocks (their three bytes) (2)");
        due("no block", Make.HEAD, BLOCKS, 0);
        due("two bytes of it", Make.join(Make.HEAD, Make.bytes(1, 0)), BLOCKS, 0);
        due("three bytes, and no more", Make.join(Make.HEAD, Make.bytes(9, 0, 0)), BLOCKS, 1);
        due("kind 3", Make.join(Make.HEAD, Make.raw(false, Make.text("ab")), Make.blockHead(1, 3, true)), BLOCKS, 2);
        due("above MOST OF A BLOCK", Make.join(Make.HEAD, Make.blockHead(1025, 0, true)), BLOCKS, 1);
        due("more than may be", Make.join(Make.HEAD, Make.run(true, 1, 101)), BLOCKS, 1);
        due("a fault within", Make.frame(), BLOCKS, 1);
        due("of two frames", Make.join(Make.HEAD, Make.run(false, 1, 0), LAST_ABC, ABC_FRAME), BLOCKS, 3);
    }

    private static void sequences() {
        CHECK.sentence("sequences that were done (3)");
        due("none", Make.frame(Make.bytes(0, 0)), SEQUENCES, 0);
        due("one", Inside.abc(1, 3, 2, 0, 0, 2), SEQUENCES, 1);
        due("three, and bits left", Inside.abc(3, 1, 2, 0, 0, 2, 1, 2, 7, 3, 1, 2), SEQUENCES, 3);
        due("three of four, as LITERALS lack", Inside.abc(4, 1, 2, 0, 0, 2, 0, 2, 0, 2, 0, 2), SEQUENCES, 3);
        due("one of two, as bits lack", Inside.abc(2, 1, 2, 0, 0, 2, 0, 1), SEQUENCES, 1);
        due("none of two, as it is too far", Inside.abc(2, 1, 3, 0, 0, 3), SEQUENCES, 0);
        byte[] frame = Inside.abc(2, 1, 2, 0, 0, 2, 0, 2);
        due("of two frames", Make.join(frame, frame), SEQUENCES, 4);
        due("none of two, as it is more than may be", Inside.abc(2, 1, 2, 43, 0, 9, 0, 9), SEQUENCES, 0);
    }

    private static void content() {
        CHECK.sentence("bytes of content that had come (4)");
        due("none", Make.HEAD, CONTENT, 0);
        due("a frame", ABC_FRAME, CONTENT, 3);
        due("no mark behind a frame", Make.join(ABC_FRAME, Make.bytes(1, 2, 3, 4)), CONTENT, 3);
        due("a block that lacks bytes", Make.first(ABC_FRAME, 11), CONTENT, 0);
        due("a block more than may be",
            Make.join(Make.HEAD, Make.run(false, 1, 2), Make.run(true, 1, 99)), CONTENT, 2);
        due("up to what may be", Make.join(Make.HEAD, Make.run(false, 1, 100), Make.run(true, 1, 1)), CONTENT, 100);
        due("a wrong sum", Make.join(Make.MARK, Make.bytes(4, 0), LAST_ABC, Make.number(1, 4)), CONTENT, 3);
        due("a wrong SIZE", Make.join(Make.MARK, Make.bytes(32, 4), LAST_ABC), CONTENT, 3);
        due("two sequences of three", Inside.abc(3, 1, 2, 0, 0, 2, 0, 2, 0, 1), CONTENT, 8);
        due("bits left, LITERALS too", Inside.abc(1, 1, 2, 0, 0, 3), CONTENT, 4);
        due("LITERALS that are too many to be left",
            Make.frame(Inside.singles(Inside.times(7, 101), 1, 1, 2, 0, 0, 2)), CONTENT, 4);
    }

    private static byte[] window(int code) {
        return Make.join(Make.MARK, Make.bytes(0, code), LAST_ABC);
    }

    private static void windows() {
        CHECK.sentence("the WINDOW is 2^(10 + e) + 2^(7 + e) * m");
        due("the least", window(0), WINDOW, 1024);
        due("m 1", window(1), WINDOW, 1152);
        due("m 7", window(7), WINDOW, 1920);
        due("e 1", window(8), WINDOW, 2048);
        due("e 1, m 1", window(9), WINDOW, 2048 + 256);
        due("e 3, m 5", window(8 * 3 + 5), WINDOW, 8192 + 5 * 1024);
        due("e 20, m 7", window(8 * 20 + 7), WINDOW, (1 << 30) + 7 * (1 << 27));
    }

    private static void windowOfTheLastThatToldOne() {
        CHECK.sentence("the WINDOW of the last frame that told one");
        due("the second", Make.join(window(80), ABC_FRAME), WINDOW, 1024);
        due("the second, by its SIZE", Make.join(ABC_FRAME, Make.MARK, Make.bytes(32, 3), LAST_ABC), WINDOW, 3);
        due("the second, by a SIZE of 0",
            Make.join(ABC_FRAME, Make.MARK, Make.bytes(32, 0), Make.raw(true, new byte[0])), WINDOW, 0);
        due("the second has 8", Make.join(ABC_FRAME, Make.MARK, Make.bytes(8, 8)), WINDOW, 1024);
        due("the second ends before it", Make.join(ABC_FRAME, Make.MARK, Make.bytes(0)), WINDOW, 1024);
        due("the second ends within SIZE", Make.join(ABC_FRAME, Make.MARK, Make.bytes(96, 1)), WINDOW, 1024);
        due("the second has a wrong ID before SIZE", Make.join(ABC_FRAME, Make.MARK, Make.bytes(33, 5, 9)), WINDOW, 1024);
        due("the second has a wrong ID behind it", Make.join(ABC_FRAME, Make.MARK, Make.bytes(1, 8, 5)), WINDOW, 2048);
        due("spare bytes behind it", Make.join(ABC_FRAME, SPARE), WINDOW, 1024);
        due("the second ends behind it", Make.join(ABC_FRAME, Make.MARK, Make.bytes(0, 8)), WINDOW, 2048);
        due("the second ends behind SIZE", Make.join(ABC_FRAME, Make.MARK, Make.bytes(32, 7)), WINDOW, 7);
        due("the second ends behind SIZE of 8", Make.join(ABC_FRAME, Make.MARK, Make.bytes(224), Make.number(9, 8)), WINDOW, 9);
    }

    private static void noWindow() {
        CHECK.sentence("0 without one");
        due("nothing", new byte[0], WINDOW, 0);
        due("spare bytes", SPARE, WINDOW, 0);
        due("it lacks", Make.join(Make.MARK, Make.bytes(0)), WINDOW, 0);
        due("HEAD has 8", Make.join(Make.MARK, Make.bytes(8, 8)), WINDOW, 0);
        due("SIZE lacks", Make.join(Make.MARK, Make.bytes(32)), WINDOW, 0);
        due("SIZE lacks a byte", Make.join(Make.MARK, Make.bytes(224, 1, 2, 3, 4, 5, 6, 7)), WINDOW, 0);
        StateFrames x = new StateFrames();
        CHECK.dueRead("one first", x, ABC_FRAME, 9, 3, 12);
        CHECK.dueRead("then none", x, SPARE, 9, 0, 9);
        CHECK.due("then none: about 5", x.about(WINDOW), 0);
    }

    private static byte[] sized(int head, long size, int bytes) {
        return Make.join(Make.MARK, Make.bytes(head), Make.number(size, bytes), LAST_ABC);
    }

    private static void windowAtMost() {
        CHECK.sentence("(the WINDOW) at most 2^31 - 1 (5)");
        due("2^31", window(8 * 21), WINDOW, INT_MOST);
        due("2^31 + 2^28", window(8 * 21 + 1), WINDOW, INT_MOST);
        due("2^32", window(8 * 22), WINDOW, INT_MOST);
        due("the greatest", window(255), WINDOW, INT_MOST);
        due("SIZE 2^31 - 2", sized(160, INT_MOST - 1, 4), WINDOW, INT_MOST - 1);
        due("SIZE 2^31 - 1", sized(160, INT_MOST, 4), WINDOW, INT_MOST);
        due("SIZE 2^31", sized(160, 1L << 31, 4), WINDOW, INT_MOST);
        due("SIZE 2^32 - 1", sized(160, -1, 4), WINDOW, INT_MOST);
        due("SIZE 2^32 + 3", sized(224, (1L << 32) + 3, 8), WINDOW, INT_MOST);
        due("SIZE 2^63 - 1", sized(224, Long.MAX_VALUE, 8), WINDOW, INT_MOST);
        due("SIZE 2^63", sized(224, Long.MIN_VALUE, 8), WINDOW, INT_MOST);
        due("SIZE 2^64 - 1", sized(224, -1, 8), WINDOW, INT_MOST);
    }

    private static void dictionary() {
        CHECK.sentence("Of the DICTIONARY: the bytes of its content (6), its ID (7).");
        StateFrames x = new StateFrames();
        Coder share = new Coder(5, 31, -1);
        byte[] told = Make.join(Make.bytes(55, 164, 48, 236), Make.number(0x01020304, 4), Inside.BITS,
            share.told(), share.told(), share.told(), Make.number(1, 4), Make.number(1, 4), Make.number(2, 4));
        Check.put(x, Make.join(told, Make.text("ab")));
        CHECK.due("learn", x.learn(), 2);
        CHECK.due("told: content", x.about(6), 2);
        CHECK.due("told: ID", x.about(7), 0x01020304);
        CHECK.dueRead("a read leaves it", x, ABC_FRAME, 9, 3, 12);
        CHECK.due("behind a read: content", x.about(6), 2);
        CHECK.due("behind a read: ID", x.about(7), 0x01020304);
        x.clear();
        x.write(7L, 8);
        x.again(8, 1499);
        CHECK.due("learn a full IN", x.learn(), 12000);
        CHECK.due("a full IN: content", x.about(6), 12000);
        CHECK.due("a full IN: ID", x.about(7), 0);
        CHECK.due("PLACE is of the read", x.about(PLACE), 12);
    }

    private static void noDictionary() {
        CHECK.sentence("Of the DICTIONARY (there being none)");
        StateFrames x = new StateFrames();
        CHECK.due("none: content", x.about(6), 0);
        CHECK.due("none: ID", x.about(7), 0);
        x.write(7L, 8);
        CHECK.due("learn", x.learn(), 8);
        x.forget();
        CHECK.due("forgotten: content", x.about(6), 0);
        CHECK.due("forgotten: ID", x.about(7), 0);
        CHECK.due("learn of nothing", x.learn(), 0);
        CHECK.due("of nothing: content", x.about(6), 0);
        CHECK.due("of nothing: ID", x.about(7), 0);
    }

    private static void anotherWhat() {
        CHECK.sentence("-1 for another what.");
        StateFrames x = new StateFrames();
        CHECK.dueRead("one frame", x, ABC_FRAME, 9, 3, 12);
        for (int what : new int[] {-1, 8, 9, 256, Integer.MIN_VALUE, Integer.MAX_VALUE}) {
            CHECK.due("about " + what, x.about(what), -1);
        }
    }
}
