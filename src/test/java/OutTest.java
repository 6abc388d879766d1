/** Promises 9 and 10: size and byteAt, and the row OUT that they tell of. */
public final class OutTest {
    private static final Check CHECK = new Check("OutTest");

    public static void main(String[] args) {
        emptyAtFirst();
        howManyBytes();
        eachByte();
        noSuchByte();
        outAtMost();
        CHECK.end();
    }

    private static void emptyAtFirst() {
        CHECK.sentence("OUT .. empty at first");
        CHECK.dueOut("new", new StateFrames(), new byte[0]);
    }

    private static void howManyBytes() {
        CHECK.sentence("How many bytes OUT has.");
        StateFrames x = new StateFrames();
        for (int n : new int[] {1, 1024, 2, 0, 1}) {
            CHECK.dueContent(n + " bytes", x, Make.join(Make.HEAD, Make.run(true, 9, n)), Make.times(9, n));
        }
        CHECK.dueContent("of no frame", x, new byte[0], new byte[0]);
    }

    private static void eachByte() {
        CHECK.sentence("Byte k of OUT, from 0, 0 .. 255");
        byte[] all = new byte[256];
        for (int k = 0; k < 256; k++) {
            all[k] = (byte) (255 - k);
        }
        StateFrames x = new StateFrames();
        CHECK.dueRead("each byte", x, Make.join(Make.HEAD, Make.raw(true, all)), 256, 256, 9 + 256);
        for (int k = 0; k < 256; k++) {
            CHECK.due("byteAt(" + k + ")", x.byteAt(k), 255 - k);
        }
    }

    private static void noSuchByte() {
        CHECK.sentence("-1 when there is none.");
        StateFrames x = new StateFrames();
        for (int k : new int[] {0, 1, -1, 32768, Integer.MIN_VALUE, Integer.MAX_VALUE}) {
            CHECK.due("of none: byteAt(" + k + ")", x.byteAt(k), -1);
        }
        CHECK.dueRead("300", x, Make.join(Make.HEAD, Make.run(true, 5, 300)), 300, 300, 10);
        CHECK.dueRead("then 3", x, Make.join(Make.HEAD, Make.run(true, 6, 3)), 300, 3, 10);
        CHECK.due("the last one", x.byteAt(2), 6);
        for (int k : new int[] {-1, 3, 4, 299, 300, 32767, 32768, Integer.MIN_VALUE, Integer.MAX_VALUE}) {
            CHECK.due("of three: byteAt(" + k + ")", x.byteAt(k), -1);
        }
    }

    private static void outAtMost() {
        CHECK.sentence("OUT of at most 32,768");
        StateFrames x = new StateFrames();
        byte[] most = Make.join(Make.WIDE, Make.run(true, 200, 32768));
        CHECK.dueContent("32,768", x, most, Make.times(200, 32768));
        CHECK.due("the last one", x.byteAt(32767), 200);
        CHECK.due("none behind it", x.byteAt(32768), -1);
        CHECK.dueRead("32,769", x, Make.join(Make.WIDE, Make.run(true, 7, 32769)), 32768, -7, 6);
        byte[] more = Make.join(most, Make.HEAD, Make.run(true, 7, 1));
        CHECK.dueRead("32,768 and one in a second frame", x, more, 32768, -7, 16);
        CHECK.dueOut("OUT stays", x, Make.times(200, 32768));
    }
}
