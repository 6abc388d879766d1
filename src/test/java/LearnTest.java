/** Promises 5 and 6: learn and forget, and what frames begin with then. */
public final class LearnTest {
    private static final Check CHECK = new Check("LearnTest");
    private static final byte[] MARK = Make.bytes(55, 164, 48, 236);
    private static final byte[] CODES = Make.bytes(129, 0x21);
    private static final Coder LITERAL = new Coder(9, 12, 200, 150, 150);
    private static final Coder DISTANCE = new Coder(8, 100, 100, 30, 26);
    private static final Coder MATCH = new Coder(5, 30, -1, -1);
    private static final byte[] WORDS = Make.text("abcdefghijklmnopqrst");

    public static void main(String[] args) {
        contentAlone();
        told();
        endsAnywhere();
        wrongDescription();
        wrongShares();
        wrongDistances();
        faultsLeaveAll();
        framesBeginWithIt();
        latestOfIt();
        ids();
        forget();
        CHECK.end();
    }

    private static byte[] dictionary(int first, int second, int third, byte[] content) {
        return Make.join(MARK, Make.number(77, 4), CODES, DISTANCE.told(), MATCH.told(), LITERAL.told(),
            Make.number(first, 4), Make.number(second, 4), Make.number(third, 4), content);
    }

    private static void dueLearn(String what, byte[] bytes, int answer) {
        dueLearn(what, new StateFrames(), bytes, answer);
    }

    private static void dueLearn(String what, StateFrames x, byte[] bytes, int answer) {
        x.clear();
        Check.put(x, bytes);
        CHECK.due("learn " + what, x.learn(), answer);
        CHECK.due("learn " + what + ": IN has bytes", x.again(1, 0), answer < 0 && bytes.length > 0);
    }

    private static void contentAlone() {
        StateFrames x = new StateFrames();
        dueLearn("nothing", x, new byte[0], 0);
        dueLearn("a byte", x, Make.bytes(55), 1);
        dueLearn("three of the mark", x, Make.first(MARK, 3), 3);
        dueLearn("a mark that is off", x, Make.bytes(55, 164, 48, 237, 1, 2), 6);
        CHECK.due("its content", x.about(6), 6);
        CHECK.due("its ID", x.about(7), 0);
        dueLearn("the most", x, Make.times(9, 12000), 12000);
        CHECK.due("the most: content", x.about(6), 12000);
    }

    private static void told() {
        StateFrames x = new StateFrames();
        dueLearn("told", x, dictionary(1, 4, 8, WORDS), 20);
        CHECK.due("told: content", x.about(6), 20);
        CHECK.due("told: ID", x.about(7), 77);
        dueLearn("distances as far as the content", x, dictionary(20, 20, 20, WORDS), 20);
        dueLearn("one byte of content", x, dictionary(1, 1, 1, Make.bytes(7)), 1);
        CHECK.due("one byte: content", x.about(6), 1);
    }

    private static void endsAnywhere() {
        byte[] whole = dictionary(1, 4, 8, WORDS);
        int shares = 4 + 4 + 2;
        int distances = shares + DISTANCE.told().length + MATCH.told().length + LITERAL.told().length;
        for (int n = 4; n < distances + 12; n++) {
            int due = n < 8 ? -1 : n < shares ? -2 : n < distances ? -3 : -1;
            dueLearn("cut at " + n, Make.first(whole, n), due);
        }
        dueLearn("without content", Make.first(whole, distances + 12), -4);
        dueLearn("with 7 bytes of content", Make.first(whole, distances + 12 + 7), -4);
        dueLearn("with 8 bytes of content", Make.first(whole, distances + 12 + 8), 8);
    }

    private static void wrongDescription() {
        byte[] rest = Make.times(1, 60);
        dueLearn("weights of 0", Make.join(MARK, Make.number(1, 4), Make.bytes(129, 0), rest), -2);
        dueLearn("no power of two", Make.join(MARK, Make.number(1, 4), Make.bytes(129, 0x31), rest), -2);
        dueLearn("no bytes", Make.join(MARK, Make.number(1, 4), Make.bytes(0), rest), -2);
        dueLearn("too many bytes", Make.join(MARK, Make.number(1, 4), Make.bytes(100), rest), -2);
    }

    private static void wrongShares() {
        byte[] before = Make.join(MARK, Make.number(1, 4), CODES);
        byte[] rest = Make.times(1, 60);
        dueLearn("distances of order 9", Make.join(before, Make.bytes(4), rest), -3);
        dueLearn("match lengths of order 10", Make.join(before, DISTANCE.told(), Make.bytes(5), rest), -3);
        dueLearn("literal lengths of order 10", Make.join(before, DISTANCE.told(), MATCH.told(), Make.bytes(5), rest), -3);
        int[] points = new int[33];
        points[32] = 32;
        dueLearn("a distance 32", Make.join(before, new Coder(5, points).told(), rest), -3);
        points = new int[54];
        points[53] = 32;
        dueLearn("a match length 53", Make.join(before, DISTANCE.told(), new Coder(5, points).told(), rest), -3);
        points = new int[37];
        points[36] = 32;
        byte[] three = Make.join(before, DISTANCE.told(), MATCH.told(), new Coder(5, points).told());
        dueLearn("a literal length 36", Make.join(three, rest), -3);
    }

    private static void wrongDistances() {
        for (int k = 0; k < 3; k++) {
            int[] d = {1, 4, 8};
            d[k] = 0;
            dueLearn("distance " + k + " is 0", dictionary(d[0], d[1], d[2], WORDS), -4);
            d[k] = 21;
            dueLearn("distance " + k + " is too far", dictionary(d[0], d[1], d[2], WORDS), -4);
            d[k] = -1;
            dueLearn("distance " + k + " is 2^32 - 1", dictionary(d[0], d[1], d[2], WORDS), -4);
            d[k] = 20;
            dueLearn("distance " + k + " is 20", dictionary(d[0], d[1], d[2], WORDS), 20);
        }
    }

    /** A frame of two blocks' worth of the dictionary: its codes, its tables, and a repeated distance. */
    private static byte[] useAll() {
        int[][] said = {{2, 1, 3}, {0, 1, 4}, {1, 3, 5}};
        return Make.frame(Make.coded(3, 0, 3, 1), Make.stream(0, 2, 1, 2, 1, 1), Make.bytes(3, 252),
            Coder.sequences(LITERAL, DISTANCE, MATCH, said));
    }

    private static void faultsLeaveAll() {
        StateFrames x = new StateFrames();
        dueLearn("a good one", x, dictionary(5, 7, 6, WORDS), 20);
        byte[] use = useAll();
        CHECK.dueRead("use", x, use, 100, 15, use.length);
        Coder other = new Coder(5, 31, -1);
        byte[] bad = Make.join(MARK, Make.number(5, 4), Make.bytes(128, 0x10), other.told(), other.told(), other.told(),
            Make.number(1, 4), Make.number(1, 4), Make.number(0, 4), WORDS);
        dueLearn("a bad one", x, bad, -4);
        CHECK.due("content stays", x.about(6), 20);
        CHECK.due("ID stays", x.about(7), 77);
        CHECK.dueRead("use again", x, use, 100, 15, use.length);
        CHECK.dueOut("use again", x, useContent());
        dueLearn("a bad one again", x, Make.join(MARK, Make.bytes(1)), -1);
        CHECK.dueRead("use once more", x, use, 100, 15, use.length);
    }

    /**
     * Literals 1, 2, 0. The first copies from 5 back, behind 1, 2: from the dictionary's r. The
     * second has no literals, so it says the second: 7. The third says the third: 6.
     */
    private static byte[] useContent() {
        StringBuilder all = new StringBuilder("abcdefghijklmnopqrst");
        all.append("\1\2");
        copy(all, 5, 3);
        copy(all, 7, 4);
        all.append("\0");
        copy(all, 6, 5);
        return Make.text(all.substring(20));
    }

    private static void copy(StringBuilder all, int distance, int n) {
        for (int k = 0; k < n; k++) {
            all.append(all.charAt(all.length() - distance));
        }
    }

    private static void framesBeginWithIt() {
        StateFrames x = new StateFrames();
        byte[] use = useAll();
        CHECK.dueRead("without codes", x, use, 100, -13, Make.INSIDE);
        dueLearn("it", x, dictionary(5, 7, 6, WORDS), 20);
        CHECK.dueContent("with it", x, use, useContent());
        CHECK.dueContent("each frame begins with it", x, Make.join(use, use), Make.join(useContent(), useContent()));
        byte[] change = Make.join(Make.HEAD,
            Make.packed(false, Make.coded(2, 0, 2, 3), Make.bytes(128, 0x10), Make.stream(1, 1, 1, 1),
                Make.bytes(1, 84, 2, 0, 0), Make.bytes(1)),
            Make.packed(true, Make.coded(3, 0, 2, 1), Make.stream(1, 1, 0, 1), Make.bytes(1, 252), Make.bytes(1)));
        StringBuilder all = new StringBuilder("abcdefghijklmnopqrst\1\1");
        copy(all, 5, 3);
        all.append("\1\0");
        copy(all, 5, 3);
        byte[] changed = Make.text(all.substring(20));
        CHECK.dueContent("what is told within a frame", x, change, changed);
        CHECK.dueContent("and behind it again", x, Make.join(change, use), Make.join(changed, useContent()));
        dueLearn("content alone", x, WORDS, 20);
        CHECK.dueRead("content alone has no codes", x, use, 100, -13, Make.INSIDE);
        byte[] tables = Make.frame(Make.bytes(0, 1, 252, 1));
        CHECK.dueRead("content alone has no tables", x, tables, 100, -16, Make.INSIDE + 2);
    }

    private static void latestOfIt() {
        StateFrames x = new StateFrames();
        for (int v = 1; v <= 3; v++) {
            dueLearn("latest", x, dictionary(11, 13, 17, WORDS), 20);
            int s = v == 1 ? 0 : 1;
            byte[] frame = Make.frame(Make.bytes(8, 'z', 1, 84, 1, s, 0), Make.stream(v - (1 << s), s));
            StringBuilder all = new StringBuilder("abcdefghijklmnopqrstz");
            copy(all, v == 1 ? 11 : v == 2 ? 13 : 17, 3);
            CHECK.dueContent("latest " + v, x, frame, Make.text(all.substring(20)));
            dueLearn("content alone", x, WORDS, 20);
            all = new StringBuilder("abcdefghijklmnopqrstz");
            copy(all, v == 1 ? 1 : v == 2 ? 4 : 8, 3);
            CHECK.dueContent("latest of content alone " + v, x, frame, Make.text(all.substring(20)));
        }
    }

    private static void ids() {
        byte[] mark = Make.bytes(40, 181, 47, 253);
        byte[] block = Make.run(true, 'q', 2);
        StateFrames x = new StateFrames();
        dueLearn("ID 77", x, dictionary(1, 1, 1, WORDS), 20);
        CHECK.dueContent("no ID", x, Make.join(Make.HEAD, block), Make.text("qq"));
        CHECK.dueContent("77 in a byte", x, Make.join(mark, Make.bytes(1, 0, 77), block), Make.text("qq"));
        CHECK.dueContent("77 in two", x, Make.join(mark, Make.bytes(2, 0, 77, 0), block), Make.text("qq"));
        CHECK.dueContent("77 in four", x, Make.join(mark, Make.bytes(3, 0, 77, 0, 0, 0), block), Make.text("qq"));
        CHECK.dueContent("0 in a byte", x, Make.join(mark, Make.bytes(1, 0, 0), block), Make.text("qq"));
        CHECK.dueRead("78", x, Make.join(mark, Make.bytes(1, 0, 78), block), 9, -4, 6);
        CHECK.dueRead("77 + 256", x, Make.join(mark, Make.bytes(2, 0, 77, 1), block), 9, -4, 6);
        byte[] high = dictionary(1, 1, 1, WORDS);
        high[4] = 1;
        high[7] = (byte) 255;
        dueLearn("ID 255 * 2^24 + 1", x, high, 20);
        CHECK.due("a high ID", x.about(7), 0xFF000001);
        CHECK.dueContent("a high ID in a frame", x, Make.join(mark, Make.bytes(3, 0, 1, 0, 0, 255), block), Make.text("qq"));
        CHECK.dueRead("only its lowest byte", x, Make.join(mark, Make.bytes(1, 0, 1), block), 9, -4, 6);
        dueLearn("content alone", x, WORDS, 20);
        CHECK.dueRead("an ID with content alone", x, Make.join(mark, Make.bytes(1, 0, 77), block), 9, -4, 6);
    }

    private static void forget() {
        StateFrames x = new StateFrames();
        x.forget();
        CHECK.due("nothing to forget", x.about(6), 0);
        dueLearn("it", x, dictionary(5, 7, 6, WORDS), 20);
        byte[] use = useAll();
        CHECK.dueContent("with it", x, use, useContent());
        x.forget();
        CHECK.due("forgotten: content", x.about(6), 0);
        CHECK.due("forgotten: ID", x.about(7), 0);
        CHECK.due("forgotten: IN stays", x.read(100), -13);
        CHECK.dueOut("forgotten: OUT stays", x, useContent());
        CHECK.dueRead("forgotten: ID 77", x, Make.bytes(40, 181, 47, 253, 33, 77), 9, -4, 5);
        byte[] back = Make.frame(Make.bytes(8, 'z', 1, 84, 1, 2, 0), Make.stream(1, 2));
        CHECK.dueRead("forgotten: distances", x, back, 9, -18, Make.INSIDE + 7);
        dueLearn("it again", x, dictionary(5, 7, 6, WORDS), 20);
        CHECK.dueContent("with it again", x, use, useContent());
    }
}
