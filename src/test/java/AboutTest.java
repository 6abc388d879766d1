/** Promise 8: what about() tells. */
public final class AboutTest {
    private static final Check CHECK = new Check("AboutTest");
    private static final byte[] MARK = Make.bytes(40, 181, 47, 253);
    private static final byte[] LAST_ABC = Make.raw(true, Make.text("abc"));

    public static void main(String[] args) {
        others();
        counts();
        countsOfFaults();
        windows();
        refused();
        CHECK.end();
    }

    private static void others() {
        StateFrames x = new StateFrames();
        for (int what : new int[] {-1, 8, 9, Integer.MIN_VALUE, Integer.MAX_VALUE}) {
            CHECK.due("about " + what, x.about(what), -1);
        }
    }

    /** PLACE, HEADS, blocks, sequences, content, WINDOW. */
    private static void due(String what, byte[] bytes, int... six) {
        StateFrames x = new StateFrames();
        Check.put(x, bytes);
        x.read(100);
        for (int k = 0; k < six.length; k++) {
            CHECK.due(what + ": about " + k, x.about(k), six[k]);
        }
    }

    private static void counts() {
        byte[] copies = Make.packed(true, Make.bytes(24, 'a', 'b', 'c', 2, 84, 1, 2, 0), Make.stream(0, 2, 0, 2));
        byte[] spare = Make.bytes(80, 42, 77, 24, 1, 0, 0, 0, 0);
        byte[] all = Make.join(Make.HEAD, Make.raw(false, Make.text("xy")), copies, spare, Make.HEAD, LAST_ABC);
        due("a frame", Make.join(Make.HEAD, LAST_ABC), 12, 1, 1, 0, 3, 1024);
        due("two frames", all, all.length, 2, 3, 2, 2 + 9 + 3, 1024);
        due("spare bytes", spare, 9, 0, 0, 0, 0, 0);
        due("nothing", new byte[0], 0, 0, 0, 0, 0, 0);
    }

    private static void countsOfFaults() {
        due("no mark", Make.bytes(1, 2, 3, 4), 0, 0, 0, 0, 0, 0);
        due("no HEAD", MARK, 4, 0, 0, 0, 0, 0);
        due("HEAD has 8", Make.join(MARK, Make.bytes(8, 0)), 4, 1, 0, 0, 0, 0);
        due("no WINDOW", Make.join(MARK, Make.bytes(0)), 5, 1, 0, 0, 0, 0);
        due("a wrong ID", Make.join(MARK, Make.bytes(1, 0, 5)), 6, 1, 0, 0, 0, 1024);
        due("a wrong ID before SIZE", Make.join(MARK, Make.bytes(33, 5, 9)), 5, 1, 0, 0, 0, 0);
        due("no SIZE", Make.join(MARK, Make.bytes(32)), 5, 1, 0, 0, 0, 0);
        due("no block", Make.HEAD, 6, 1, 0, 0, 0, 1024);
        due("two bytes of a block", Make.join(Make.HEAD, Make.bytes(1, 0)), 8, 1, 0, 0, 0, 1024);
        due("a block's three bytes", Make.join(Make.HEAD, Make.bytes(9, 0, 0)), 9, 1, 1, 0, 0, 1024);
        due("kind 3", Make.join(Make.HEAD, Make.raw(false, Make.text("ab")), Make.blockHead(1, 3, true)), 11, 1, 2, 0, 2, 1024);
        due("too many", Make.join(Make.HEAD, Make.raw(false, Make.text("ab")), Make.run(true, 1, 99)), 11, 1, 2, 0, 2, 1024);
        due("the sum", Make.join(MARK, Make.bytes(36, 3), LAST_ABC, Make.number(1, 4)), 12, 1, 1, 0, 3, 3);
        due("SIZE", Make.join(MARK, Make.bytes(32, 4), LAST_ABC), 5, 1, 1, 0, 3, 4);
        byte[] second = Make.join(Make.HEAD, LAST_ABC, MARK, Make.bytes(33, 5, 9));
        due("a second frame that tells no WINDOW", second, 17, 2, 1, 0, 3, 1024);
        byte[] far = Make.frame(Make.bytes(24, 'a', 'b', 'c', 3, 84, 1, 2, 0), Make.stream(0, 2, 1, 2, 7, 3, 1, 2));
        due("a sequence that has bits left", far, Make.INSIDE + 9, 1, 1, 3, 12, 1024);
        byte[] third = Make.frame(Make.bytes(16, 'a', 'b', 3, 84, 1, 2, 0), Make.stream(0, 2, 0, 2, 0, 2));
        due("a third sequence without literals", third, Make.INSIDE + 8, 1, 1, 2, 8, 1024);
    }

    private static void dueWindow(int code, int window) {
        due("WINDOW " + code, Make.join(MARK, Make.bytes(0, code), LAST_ABC), 12, 1, 1, 0, 3, window);
    }

    private static void windows() {
        dueWindow(0, 1024);
        dueWindow(1, 1152);
        dueWindow(7, 1920);
        dueWindow(8, 2048);
        dueWindow(8 * 3 + 5, 8192 + 5 * 1024);
        dueWindow(8 * 20 + 7, (1 << 30) + 7 * (1 << 27));
        dueWindow(8 * 21, Integer.MAX_VALUE);
        dueWindow(255, Integer.MAX_VALUE);
        due("of SIZE", Make.join(MARK, Make.bytes(96, 7, 1), LAST_ABC), 5, 1, 1, 0, 3, 256 + 263);
        due("of SIZE 2^31 - 1", Make.join(MARK, Make.bytes(160), Make.number(Integer.MAX_VALUE, 4), LAST_ABC),
            5, 1, 1, 0, 3, Integer.MAX_VALUE);
        due("of SIZE 2^32 - 1", Make.join(MARK, Make.bytes(160), Make.number(-1, 4), LAST_ABC),
            5, 1, 1, 0, 3, Integer.MAX_VALUE);
        due("of SIZE 2^64 - 1", Make.join(MARK, Make.bytes(224), Make.number(-1, 8), LAST_ABC),
            5, 1, 1, 0, 3, Integer.MAX_VALUE);
        due("the last one", Make.join(MARK, Make.bytes(0, 80), LAST_ABC, Make.HEAD, LAST_ABC), 24, 2, 2, 0, 6, 1024);
    }

    private static void refused() {
        StateFrames x = new StateFrames();
        Check.put(x, Make.join(Make.HEAD, LAST_ABC));
        x.read(3);
        x.write(0L, 8);
        CHECK.due("refused", x.read(-1), -40);
        int[] due = {12, 1, 1, 0, 3, 1024, 0, 0};
        for (int k = 0; k < due.length; k++) {
            CHECK.due("refused: about " + k, x.about(k), due[k]);
        }
        x.clear();
        x.read(0);
        for (int k = 0; k < due.length; k++) {
            CHECK.due("read of nothing: about " + k, x.about(k), 0);
        }
    }
}
