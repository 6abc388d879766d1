/** Promises 1 to 4: a new object, write, again and clear, and the row IN that they fill. */
public final class InputTest {
    private static final Check CHECK = new Check("InputTest");
    private static final byte[] ABC_FRAME = Make.join(Make.HEAD, Make.raw(true, Make.text("abc")));

    public static void main(String[] args) {
        emptyAtFirst();
        newObject();
        inAtMost();
        writeHighestFirst();
        writeOneToEight();
        writeRefusedByNumber();
        writeRefusedByRoom();
        againTheLastBytes();
        againOfAllThereIs();
        againNoTimes();
        againRefusedByBytes();
        againRefusedByTimes();
        againRefusedByRoom();
        clearEmpties();
        clearOfNothing();
        CHECK.end();
    }

    /** An object whose IN has n bytes of 0. */
    private static StateFrames filled(int n) {
        StateFrames x = new StateFrames();
        if (n > 0) {
            x.write(0L, 1);
            x.again(1, n - 1);
        }
        return x;
    }

    /** How many bytes IN has: they are no told dictionary, so all of them are content. */
    private static void dueIn(String what, StateFrames x, int n) {
        CHECK.due(what + ": bytes of IN", x.learn(), n);
    }

    private static void emptyAtFirst() {
        CHECK.sentence("IN is a row of at most 12,000 bytes, OUT of at most 32,768, empty at first.");
        StateFrames x = new StateFrames();
        CHECK.due("size", x.size(), 0);
        CHECK.due("byteAt(0)", x.byteAt(0), -1);
        CHECK.due("again(1, 0)", x.again(1, 0), false);
        CHECK.due("read(0)", x.read(0), 0);
        dueIn("new", x, 0);
    }

    private static void newObject() {
        CHECK.sentence("StateFrames(): All is as said.");
        StateFrames x = new StateFrames();
        for (int what = 0; what < 8; what++) {
            CHECK.due("about " + what, x.about(what), 0);
        }
        byte[] withId = Make.join(Make.MARK, Make.bytes(1, 0, 1), Make.raw(true, Make.text("abc")));
        CHECK.dueRead("no DICTIONARY", x, withId, 9, -4, 6);
        StateFrames other = new StateFrames();
        CHECK.due("another object's IN", other.again(1, 0), false);
        CHECK.due("another object's heads", other.about(1), 0);
    }

    private static void inAtMost() {
        CHECK.sentence("IN is a row of at most 12,000 bytes");
        StateFrames x = filled(12000);
        CHECK.due("write at 12,000", x.write(0L, 1), false);
        CHECK.due("again at 12,000", x.again(1, 1), false);
        dueIn("full", x, 12000);
        CHECK.due("write, when it is empty again", x.write(0L, 8), true);
        dueIn("empty again", x, 8);
        byte[] run = Make.join(Make.WIDE, Make.raw(true, Make.times(7, 12000 - 9)));
        CHECK.dueContent("a frame of 12,000 bytes", run, Make.times(7, 12000 - 9));
    }

    private static void writeHighestFirst() {
        CHECK.sentence("Appends to IN the n highest bytes of eight, the highest first: true");
        StateFrames x = new StateFrames();
        CHECK.due("write 8", x.write(0x28B52FFD00002100L, 8), true);
        CHECK.due("write 1", x.write(0x00FFFFFFFFFFFFFFL, 1), true);
        CHECK.due("write 4", x.write(0x8001FF7F99999999L, 4), true);
        CHECK.due("read", x.read(4), 4);
        CHECK.dueOut("read", x, Make.bytes(0x80, 1, 0xFF, 0x7F));
        x.clear();
        Check.put(x, Make.join(Make.HEAD, Make.blockHead(8, 0, true)));
        CHECK.due("write all eight", x.write(0xFEDCBA9876543210L, 8), true);
        CHECK.due("read all eight", x.read(8), 8);
        CHECK.dueOut("read all eight", x, Make.bytes(0xFE, 0xDC, 0xBA, 0x98, 0x76, 0x54, 0x32, 0x10));
    }

    private static void writeOneToEight() {
        CHECK.sentence("when n is not 1 .. 8 (1 .. 8 are not refused)");
        for (int n = 1; n <= 8; n++) {
            StateFrames x = new StateFrames();
            CHECK.due("write " + n, x.write(0x0102030405060708L, n), true);
            dueIn("write " + n, x, n);
        }
    }

    private static void writeRefusedByNumber() {
        CHECK.sentence("false, refused, when n is not 1 .. 8");
        for (int n : new int[] {0, 9, -1, -8, 16, 257, Integer.MIN_VALUE, Integer.MAX_VALUE}) {
            StateFrames x = new StateFrames();
            Check.put(x, ABC_FRAME);
            CHECK.due("write " + n, x.write(-1L, n), false);
            CHECK.due("IN stays: read", x.read(9), 3);
            dueIn("IN stays", x, ABC_FRAME.length);
        }
    }

    private static void writeRefusedByRoom() {
        CHECK.sentence("false, refused, when .. there would be more than 12,000 (write)");
        for (int n = 1; n <= 8; n++) {
            StateFrames x = filled(12000 - n);
            CHECK.due("write " + n + " up to 12,000", x.write(0L, n), true);
            dueIn("up to 12,000", x, 12000);
            x = filled(12001 - n);
            CHECK.due("write " + n + " up to 12,001", x.write(0L, n), false);
            dueIn("IN stays", x, 12001 - n);
        }
    }

    private static void againTheLastBytes() {
        CHECK.sentence("Appends to IN n times its last m bytes.");
        StateFrames x = new StateFrames();
        Check.put(x, Make.join(Make.HEAD, Make.blockHead(11, 0, true), Make.text("abcde")));
        CHECK.due("twice three", x.again(3, 2), true);
        CHECK.due("read", x.read(11), 11);
        CHECK.dueOut("read", x, Make.text("abcdecdecde"));
        x.clear();
        Check.put(x, Make.join(Make.HEAD, Make.blockHead(6, 0, true), Make.text("ab")));
        CHECK.due("four times one", x.again(1, 4), true);
        CHECK.due("read", x.read(11), 6);
        CHECK.dueOut("read", x, Make.text("abbbbb"));
    }

    private static void againOfAllThereIs() {
        CHECK.sentence("when m is not 1 .. how many it has (1 and so many are not refused)");
        StateFrames x = new StateFrames();
        Check.put(x, ABC_FRAME);
        CHECK.due("all of it", x.again(ABC_FRAME.length, 2), true);
        CHECK.due("read", x.read(9), 9);
        CHECK.dueOut("read", x, Make.text("abcabcabc"));
        x = filled(1);
        CHECK.due("the one there is", x.again(1, 1), true);
        dueIn("the one there is", x, 2);
    }

    private static void againNoTimes() {
        CHECK.sentence("n is below 0 (0 is not refused)");
        StateFrames x = filled(5);
        CHECK.due("no times 1", x.again(1, 0), true);
        CHECK.due("no times all", x.again(5, 0), true);
        dueIn("no times", x, 5);
        x = filled(12000);
        CHECK.due("no times all of 12,000", x.again(12000, 0), true);
        dueIn("no times all of 12,000", x, 12000);
    }

    private static void againRefusedByBytes() {
        CHECK.sentence("False, refused, when m is not 1 .. how many it has");
        for (int m : new int[] {0, -1, 6, 12000, 12001, Integer.MIN_VALUE, Integer.MAX_VALUE}) {
            StateFrames x = filled(5);
            CHECK.due("once " + m, x.again(m, 1), false);
            CHECK.due("no times " + m, x.again(m, 0), false);
            dueIn("IN stays", x, 5);
        }
        StateFrames x = new StateFrames();
        CHECK.due("of nothing: 0", x.again(0, 0), false);
        CHECK.due("of nothing: 1", x.again(1, 0), false);
        dueIn("of nothing", x, 0);
    }

    private static void againRefusedByTimes() {
        CHECK.sentence("False, refused, when .. n is below 0");
        for (int n : new int[] {-1, -2, -12000, Integer.MIN_VALUE}) {
            StateFrames x = filled(5);
            CHECK.due("times " + n, x.again(2, n), false);
            dueIn("IN stays", x, 5);
        }
    }

    private static void againRefusedByRoom() {
        CHECK.sentence("False, refused, when .. there would be more than 12,000 (again)");
        StateFrames x = filled(3);
        CHECK.due("3 and 4,000 times 3", x.again(3, 4000), false);
        dueIn("IN stays", x, 3);
        x = filled(3);
        CHECK.due("3 and 3,999 times 3", x.again(3, 3999), true);
        dueIn("up to 12,000", x, 12000);
        x = filled(6000);
        CHECK.due("twice 6,000", x.again(6000, 1), true);
        dueIn("twice 6,000", x, 12000);
        x = filled(6001);
        CHECK.due("twice 6,001", x.again(6001, 1), false);
        dueIn("twice 6,001", x, 6001);
        int[][] wraps = {{1, Integer.MAX_VALUE}, {2, 1 << 30}, {4, 1 << 30}, {8, (1 << 29) + 1}, {3, 1431655766}};
        for (int[] wrap : wraps) {
            x = filled(8);
            CHECK.due(wrap[0] + " times " + wrap[1], x.again(wrap[0], wrap[1]), false);
            dueIn("IN stays", x, 8);
        }
    }

    private static void clearEmpties() {
        CHECK.sentence("clear(): IN becomes empty.");
        StateFrames x = new StateFrames();
        Check.put(x, Make.bytes(1, 2));
        CHECK.due("learn", x.learn(), 2);
        Check.put(x, ABC_FRAME);
        x.read(3);
        x.clear();
        CHECK.due("OUT stays", x.size(), 3);
        CHECK.due("PLACE stays", x.about(0), ABC_FRAME.length);
        CHECK.due("the DICTIONARY stays", x.about(6), 2);
        CHECK.due("again", x.again(1, 1), false);
        CHECK.due("read", x.read(3), 0);
        CHECK.due("its PLACE", x.about(0), 0);
        CHECK.due("its OUT", x.size(), 0);
        x = filled(12000);
        x.clear();
        CHECK.due("write where it was full", x.write(0L, 8), true);
        dueIn("where it was full", x, 8);
    }

    private static void clearOfNothing() {
        CHECK.sentence("clear(): IN becomes empty. (that is empty)");
        StateFrames x = new StateFrames();
        x.clear();
        x.clear();
        CHECK.due("write", x.write(0L, 1), true);
        dueIn("one byte", x, 1);
    }
}
