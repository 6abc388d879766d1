/** Promises 9 and 10: size and byteAt. */
public final class OutTest {
    private static final Check CHECK = new Check("OutTest");

    public static void main(String[] args) {
        StateFrames x = new StateFrames();
        CHECK.dueOut("new", x, new byte[0]);
        byte[] all = new byte[256];
        for (int k = 0; k < 256; k++) {
            all[k] = (byte) (255 - k);
        }
        CHECK.dueContent("each byte", x, Make.join(Make.HEAD, Make.raw(true, all)), all);
        for (int k : new int[] {-1, Integer.MIN_VALUE, 256, 32768, Integer.MAX_VALUE}) {
            CHECK.due("byte " + k, x.byteAt(k), -1);
        }
        CHECK.dueContent("fewer", x, Make.join(Make.HEAD, Make.raw(true, Make.bytes(1, 2))), Make.bytes(1, 2));
        byte[] wide = Make.bytes(40, 181, 47, 253, 0, 80);
        CHECK.dueContent("the most", x, Make.join(wide, Make.run(true, 200, 32768)), Make.times(200, 32768));
        CHECK.due("its last byte", x.byteAt(32767), 200);
        CHECK.dueRead("one more", x, Make.join(wide, Make.run(true, 7, 32769)), 32768, -7, 6);
        CHECK.dueOut("OUT as it was", x, Make.times(200, 32768));
        CHECK.dueContent("none", x, new byte[0], new byte[0]);
        CHECK.end();
    }
}
