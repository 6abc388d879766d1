/** Promises 1 to 4: a new object, write, again and clear. */
public final class InputTest {
    private static final Check CHECK = new Check("InputTest");

    public static void main(String[] args) {
        newObject();
        write();
        writeToTheEdge();
        again();
        againToTheEdge();
        clear();
        CHECK.end();
    }

    private static void newObject() {
        StateFrames x = new StateFrames();
        CHECK.due("new: size", x.size(), 0);
        CHECK.due("new: byteAt(0)", x.byteAt(0), -1);
        for (int what = 0; what < 8; what++) {
            CHECK.due("new: about " + what, x.about(what), 0);
        }
        CHECK.due("new: again(1, 0)", x.again(1, 0), false);
        CHECK.due("new: read(0)", x.read(0), 0);
        CHECK.due("new: learn", x.learn(), 0);
    }

    private static void write() {
        StateFrames x = new StateFrames();
        CHECK.due("write 0 bytes", x.write(-1L, 0), false);
        CHECK.due("write 9 bytes", x.write(-1L, 9), false);
        CHECK.due("write -1 bytes", x.write(-1L, -1), false);
        CHECK.due("write the least", x.write(-1L, Integer.MIN_VALUE), false);
        CHECK.due("write the most", x.write(-1L, Integer.MAX_VALUE), false);
        CHECK.due("nothing was written", x.read(9), 0);
        CHECK.due("write 8 bytes", x.write(0x28B52FFD00002100L, 8), true);
        CHECK.due("write 1 byte", x.write(0x00FFFFFFFFFFFFFFL, 1), true);
        CHECK.due("write 4 bytes", x.write(0x8001FF7F99999999L, 4), true);
        CHECK.due("what was written", x.read(4), 4);
        CHECK.dueOut("what was written", x, Make.bytes(0x80, 1, 0xFF, 0x7F));
        for (int n = 1; n <= 8; n++) {
            x.clear();
            CHECK.due("write " + n, x.write(0x0102030405060708L, n), true);
            CHECK.due("IN has " + n, x.learn(), n);
        }
    }

    private static void writeToTheEdge() {
        StateFrames x = new StateFrames();
        x.write(7L, 8);
        CHECK.due("again up to 11,992", x.again(8, 1498), true);
        CHECK.due("write up to 11,999", x.write(7L, 7), true);
        CHECK.due("write beyond", x.write(7L, 2), false);
        CHECK.due("write the last one", x.write(7L, 1), true);
        CHECK.due("write one more", x.write(7L, 1), false);
        CHECK.due("all that IN can have", x.learn(), 12000);
        CHECK.due("room again", x.write(7L, 8), true);
    }

    private static void again() {
        StateFrames x = new StateFrames();
        Check.put(x, Make.join(Make.HEAD, Make.blockHead(11, 0, true), Make.text("abcde")));
        CHECK.due("again m 0", x.again(0, 1), false);
        CHECK.due("again m -1", x.again(-1, 1), false);
        CHECK.due("again m beyond", x.again(15, 1), false);
        CHECK.due("again n -1", x.again(1, -1), false);
        CHECK.due("again no times", x.again(14, 0), true);
        CHECK.due("again twice", x.again(3, 2), true);
        CHECK.due("read", x.read(11), 11);
        CHECK.dueOut("again", x, Make.text("abcdecdecde"));
    }

    private static void againToTheEdge() {
        StateFrames x = new StateFrames();
        x.write(0L, 3);
        CHECK.due("again beyond", x.again(3, 4000), false);
        CHECK.due("again far beyond", x.again(3, Integer.MAX_VALUE), false);
        CHECK.due("again beyond by 2^32", x.again(2, Integer.MIN_VALUE >>> 1), false);
        CHECK.due("again to the edge", x.again(3, 3999), true);
        CHECK.due("again one more", x.again(1, 1), false);
        CHECK.due("again none more", x.again(12000, 0), true);
        CHECK.due("again all of it", x.again(12000, 1), false);
        CHECK.due("all", x.learn(), 12000);
    }

    private static void clear() {
        StateFrames x = new StateFrames();
        Check.put(x, Make.join(Make.HEAD, Make.raw(true, Make.text("abc"))));
        x.read(3);
        x.clear();
        CHECK.due("OUT stays", x.size(), 3);
        CHECK.due("PLACE stays", x.about(0), 12);
        CHECK.due("IN is empty", x.again(1, 1), false);
        CHECK.due("read of nothing", x.read(3), 0);
        CHECK.due("its PLACE", x.about(0), 0);
        CHECK.due("its OUT", x.size(), 0);
    }
}
