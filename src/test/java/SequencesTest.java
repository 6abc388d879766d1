import java.io.ByteArrayOutputStream;

/** Promise 7: the SEQUENCES of a block, their tables, distances and copies, and the faults 15 to 20. */
public final class SequencesTest {
    private static final Check CHECK = new Check("SequencesTest");
    private static final int AT = Make.INSIDE;

    /** A HEAD that has a WINDOW of 2^20. */
    private static final byte[] WIDE = Make.bytes(40, 181, 47, 253, 0, 80);

    private static final Coder LITERAL = new Coder(6, 4, 3, 2, 2, 2, 2, 2, 2, 2, 2, 2, 2, 2, 1, 1, 1,
        2, 2, 2, 2, 2, 2, 2, 2, 2, 3, 2, 1, 1, 1, 1, 1, -1, -1, -1, -1);
    private static final Coder DISTANCE = new Coder(5, 1, 1, 1, 1, 1, 1, 2, 2, 2, 1, 1, 1, 1, 1, 1, 1,
        1, 1, 1, 1, 1, 1, 1, 1, -1, -1, -1, -1, -1);
    private static final Coder MATCH = new Coder(6, 1, 4, 3, 2, 2, 2, 2, 2, 2, 1, 1, 1, 1, 1, 1, 1,
        1, 1, 1, 1, 1, 1, 1, 1, 1, 1, 1, 1, 1, 1, 1, 1, 1, 1, 1, 1, 1, 1, 1, 1, 1, 1, 1, 1, 1, 1,
        -1, -1, -1, -1, -1, -1, -1);

    /** MODES: each table is one symbol. */
    private static final int SINGLES = 84;

    public static void main(String[] args) {
        numbers();
        literalLengths();
        matchLengths();
        longestMatches();
        distances();
        latest();
        latestGoOn();
        knownShares();
        toldShares();
        tablesAsTheyWere();
        wrongModes();
        wrongTables();
        wrongStreams();
        tooFar();
        tooFarWithDictionary();
        orderOfFaults();
        CHECK.end();
    }

    /** LITERALS and sequences whose three tables are one symbol each. */
    private static byte[] singles(byte[] literals, int number, int literal, int distance, int match, long... bits) {
        return Make.join(literals, Make.bytes(number, SINGLES, literal, distance, match), Make.stream(bits));
    }

    private static byte[] abc(int number, int literal, int distance, int match, long... bits) {
        return Make.frame(singles(Make.literals(Make.text("abc")), number, literal, distance, match, bits));
    }

    private static void numbers() {
        byte[] abc = Make.literals(Make.text("abc"));
        byte[] tail = Make.join(Make.bytes(SINGLES, 3, 2, 0), Make.stream(0, 2));
        CHECK.dueContent("none", Make.frame(abc, Make.bytes(0)), Make.text("abc"));
        CHECK.dueContent("none in two bytes", Make.frame(abc, Make.bytes(128, 0)), Make.text("abc"));
        CHECK.dueContent("one", Make.frame(abc, Make.bytes(1), tail), Make.text("abcccc"));
        CHECK.dueContent("one in two bytes", Make.frame(abc, Make.bytes(128, 1), tail), Make.text("abcccc"));
        CHECK.dueFault("the second byte lacks", Make.frame(abc, Make.bytes(128)), 10, AT + 7);
        CHECK.dueFault("the third byte lacks", Make.frame(abc, Make.bytes(255, 0)), 10, AT + 8);
        CHECK.dueFault("MODES lack", Make.frame(abc, Make.bytes(1)), 10, AT + 7);
        CHECK.dueFault("bytes behind none", Make.frame(abc, Make.bytes(0, 0)), 15, AT + 7);
        CHECK.dueFault("bytes behind none in two", Make.frame(abc, Make.bytes(128, 0, 0)), 15, AT + 8);
        many(300, Make.bytes(129, 44), 0);
        many(10000, Make.bytes(128 + 39, 16), 0);
        many(32512, Make.bytes(255, 0, 0), 7);
        many(32511, Make.bytes(254, 255), 7);
    }

    /** Sequences of three bytes each that take no bits: as many as are told are done. */
    private static void many(int number, byte[] told, int fault) {
        StateFrames x = new StateFrames();
        byte[] block = Make.join(Make.literals(Make.text("abcd")), told, Make.bytes(SINGLES, 0, 0, 0, 1));
        byte[] all = Make.join(WIDE, Make.raw(false, Make.text("0123")), Make.packed(true, block));
        int stream = all.length - 1;
        CHECK.dueRead(number + " sequences", x, all, 32768, fault == 0 ? 8 + 3 * number : -7,
            fault == 0 ? all.length : stream);
        CHECK.due(number + " sequences: done", x.about(3), fault == 0 ? number : (32768 - 4) / 3);
    }

    private static void literalLengths() {
        int[] from = {16, 18, 20, 22, 24, 28, 32, 40, 48, 64, 128, 256, 512, 1024, 2048, 4096, 8192, 16384, 32768, 65536};
        int[] bits = {1, 1, 1, 1, 2, 2, 3, 3, 4, 6, 7, 8, 9, 10, 11, 12, 13, 14, 15, 16};
        for (int s = 0; s < 36; s++) {
            int width = s < 16 ? 0 : bits[s - 16];
            int least = s < 16 ? s : from[s - 16];
            literalLength(s, least, 0, width);
            literalLength(s, least + (1 << width) - 1, (1 << width) - 1, width);
        }
    }

    private static void literalLength(int s, int length, int extra, int width) {
        byte[] literals = Make.join(Make.number(16L * length + 13, 3), Make.bytes(5));
        byte[] block = singles(literals, 1, s, 2, 0, 0, 2, extra, width);
        byte[] all = Make.join(WIDE, Make.raw(false, Make.bytes(5)), Make.packed(true, block));
        int stream = AT + 1 + 3 + 4 + 5;
        String what = "literal length " + length + " by " + s;
        if (length + 4 <= 32768) {
            CHECK.dueContent(what, all, Make.times(5, length + 4));
        } else {
            CHECK.dueFault(what, all, length + 3 > 131072 ? 20 : 7, stream);
        }
    }

    private static void matchLengths() {
        int[] from = {35, 37, 39, 41, 43, 47, 51, 59, 67, 83, 99, 131, 259, 515, 1027, 2051, 4099, 8195, 16387, 32771, 65539};
        int[] bits = {1, 1, 1, 1, 2, 2, 3, 3, 4, 4, 5, 7, 8, 9, 10, 11, 12, 13, 14, 15, 16};
        for (int s = 0; s < 53; s++) {
            int width = s < 32 ? 0 : bits[s - 32];
            int least = s < 32 ? s + 3 : from[s - 32];
            matchLength(s, least, 0, width);
            matchLength(s, least + (1 << width) - 1, (1 << width) - 1, width);
        }
    }

    private static void matchLength(int s, int length, int extra, int width) {
        byte[] block = singles(Make.literals(Make.bytes(5)), 1, 1, 2, s, 0, 2, extra, width);
        byte[] all = Make.join(WIDE, Make.packed(true, block));
        int stream = AT + 4 + 5;
        String what = "match length " + length + " by " + s;
        if (length + 1 <= 32768) {
            CHECK.dueContent(what, all, Make.times(5, length + 1));
        } else {
            CHECK.dueFault(what, all, length + 1 > 131072 ? 20 : 7, stream);
        }
    }

    /** The longest ones can only be told apart by how much a block may come to. */
    private static void longestMatches() {
        byte[] five = Make.bytes(40, 181, 47, 253, 0, 8 * 5 + 1);
        byte[] one = Make.literals(Make.bytes(5));
        int most = 32768 + 4096;
        for (int over = 0; over < 2; over++) {
            byte[] block = singles(one, 1, 1, 2, 51, 0, 2, most - 1 + over - 32771, 15);
            CHECK.dueFault("32771 and more, over by " + over, Make.join(five, Make.packed(true, block)),
                over == 0 ? 7 : 20, AT + 9);
            block = singles(one, 1, 1, 2, 52, 0, 2, 131071 + over - 65539, 16);
            CHECK.dueFault("65539 and more, over by " + over, Make.join(WIDE, Make.packed(true, block)),
                over == 0 ? 7 : 20, AT + 9);
        }
    }

    private static byte[] differing(int n) {
        byte[] made = new byte[n];
        for (int k = 0; k < n; k++) {
            made[k] = (byte) (k * 31 + k / 256 * 7);
        }
        return made;
    }

    /** What comes of literals and {literal length, distance, match length}. */
    private static byte[] model(byte[] before, byte[] literals, int[]... all) {
        ByteArrayOutputStream made = new ByteArrayOutputStream();
        made.write(before, 0, before.length);
        int used = 0;
        for (int[] one : all) {
            made.write(literals, used, one[0]);
            used += one[0];
            for (int k = 0; k < one[2]; k++) {
                byte[] now = made.toByteArray();
                made.write(now[now.length - one[1]]);
            }
        }
        made.write(literals, used, literals.length - used);
        return made.toByteArray();
    }

    private static void distances() {
        byte[] before = differing(1000);
        byte[] literals = Make.text("abcdef");
        for (int s = 2; s < 10; s++) {
            for (int v : new int[] {1 << s, (1 << s) + 1, (2 << s) - 1}) {
                if (v - 3 <= 1002) {
                    byte[] block = singles(Make.literals(literals), 1, 2, s, 17, v - (1 << s), s);
                    byte[] all = Make.join(WIDE, Make.raw(false, before), Make.packed(true, block));
                    CHECK.dueContent("distance " + (v - 3), all, model(before, literals, new int[] {2, v - 3, 20}));
                }
            }
        }
        CHECK.dueContent("all of the content back", abc(1, 3, 2, 5, 2, 2), Make.text("abcabcabcab"));
        CHECK.dueContent("two back", abc(1, 3, 2, 2, 1, 2), Make.text("abcbcbcb"));
    }

    private static void latest() {
        byte[] literals = Make.text("abcdefghijklmn");
        int[][] said = {
            {8, 3, 4}, {0, 1, 5}, {1, 1, 3}, {0, 2, 6}, {0, 3, 7}, {1, 2, 3}, {0, 10, 9}, {0, 2, 3}, {1, 3, 4}, {0, 3, 3}};
        int[][] meant = {
            {8, 8, 4}, {0, 1, 5}, {1, 1, 3}, {0, 4, 6}, {0, 3, 7}, {1, 4, 3}, {0, 7, 9}, {0, 3, 3}, {1, 4, 4}, {0, 3, 3}};
        byte[] block = Make.join(Make.literals(literals), Make.bytes(said.length, 0),
            Coder.sequences(LITERAL, DISTANCE, MATCH, said));
        CHECK.dueContent("the latest", Make.frame(block), model(new byte[0], literals, meant));
        one("the first is 1", 1, 4, 0, 1);
        one("the second is 4", 2, 4, 1, 4);
        one("the third is 8", 3, 8, 1, 8);
        one("the second, without literals", 1, 0, 0, 4);
        one("the third, without literals", 2, 0, 1, 8);
        CHECK.dueFault("the first less 1 is 0", Make.join(Make.HEAD, Make.raw(false, differing(9)),
            Make.packed(true, singles(Make.bytes(0), 1, 0, 1, 0, 1, 1))), 18, AT + 9 + 3 + 6);
    }

    private static void one(String what, int v, int literal, int symbol, int distance) {
        byte[] literals = Make.text("abcdefgh");
        byte[] block = singles(Make.literals(literals), 1, literal, symbol, 9, v - (1 << symbol), symbol);
        byte[] before = differing(9);
        CHECK.dueContent(what, Make.join(Make.HEAD, Make.raw(false, before), Make.packed(true, block)),
            model(before, literals, new int[] {literal, distance, 12}));
    }

    /** From block to block the latest go on, from frame to frame they begin anew. */
    private static void latestGoOn() {
        byte[] letters = Make.text("abcdefghij");
        byte[] block = singles(Make.literals(letters), 1, 9, 3, 0, 0, 3);
        byte[] next = singles(Make.literals(Make.text("z")), 1, 1, 0, 0);
        byte[] first = model(new byte[0], letters, new int[] {9, 5, 3});
        byte[] second = model(first, Make.text("z"), new int[] {1, 5, 3});
        byte[] frame = Make.join(Make.HEAD, Make.packed(false, block), Make.run(false, '-', 0), Make.packed(true, next));
        CHECK.dueContent("in the next block", frame, second);
        byte[] other = Make.join(Make.HEAD, Make.packed(true, next));
        CHECK.dueContent("in the next frame", Make.join(frame, other),
            Make.join(second, model(new byte[0], Make.text("z"), new int[] {1, 1, 3})));
    }

    private static void knownShares() {
        byte[] literals = differing(200);
        int[][] said = new int[52][];
        int[][] meant = new int[52][];
        for (int k = 0; k < said.length; k++) {
            int distance = k % 7 == 6 ? 5 + k : 1 + k % 5;
            said[k] = new int[] {k == 0 ? 15 : k % 7, distance + 3, 3 + k % 32};
            meant[k] = new int[] {said[k][0], distance, said[k][2]};
        }
        byte[] block = Make.join(Make.literals(literals), Make.bytes(said.length, 0),
            Coder.sequences(LITERAL, DISTANCE, MATCH, said));
        CHECK.dueContent("known shares", Make.join(WIDE, Make.packed(true, block)), model(new byte[0], literals, meant));
    }

    private static void toldShares() {
        Coder literal = new Coder(9, 100, 200, -1, 0, 0, 0, 0, 0, 180, 0, 0, 0, 30, -1);
        Coder distance = new Coder(8, 0, 0, 100, 120, -1, 35);
        Coder match = new Coder(5, 10, -1, -1, 0, 0, 20);
        int[][] said = {{13, 4, 3}, {1, 9, 4}, {2, 17, 5}, {0, 5, 8}, {8, 33, 3}, {12, 11, 8}, {1, 6, 3}};
        int[][] meant = {{13, 1, 3}, {1, 6, 4}, {2, 14, 5}, {0, 2, 8}, {8, 30, 3}, {12, 8, 8}, {1, 3, 3}};
        byte[] literals = differing(40);
        byte[] block = Make.join(Make.literals(literals), Make.bytes(said.length, 128 + 32 + 8),
            literal.told(), distance.told(), match.told(), Coder.sequences(literal, distance, match, said));
        CHECK.dueContent("told shares", Make.frame(block), model(new byte[0], literals, meant));
        Coder all = new Coder(5, -1, -1, -1, -1, -1, -1, -1, -1, -1, -1, -1, -1, -1, -1, -1, -1,
            -1, -1, -1, -1, -1, -1, -1, -1, -1, -1, -1, -1, -1, -1, -1, -1);
        int[][] few = {{3, 4, 34}, {2, 5, 3}};
        block = Make.join(Make.literals(literals), Make.bytes(2, 128 + 32 + 8), all.told(), all.told(), all.told(),
            Coder.sequences(all, all, all, few));
        CHECK.dueContent("shares of -1 alone", Make.frame(block),
            model(new byte[0], literals, new int[] {3, 1, 34}, new int[] {2, 2, 3}));
    }

    private static void tablesAsTheyWere() {
        byte[] abc = Make.literals(Make.text("abc"));
        byte[] single = Make.packed(false, singles(abc, 1, 3, 2, 0, 0, 2));
        byte[] again = Make.packed(true, abc, Make.bytes(1, 252), Make.stream(0, 2));
        CHECK.dueContent("symbols again", Make.join(Make.HEAD, single, again), Make.text("abccccabcccc"));
        CHECK.dueContent("behind no sequences", Make.join(Make.HEAD, single, Make.packed(false, abc, Make.bytes(0)), again),
            Make.text("abccccabcabcccc"));
        int[][] said = {{3, 4, 3}};
        byte[] known = Make.packed(false, abc, Make.bytes(1, 0), Coder.sequences(LITERAL, DISTANCE, MATCH, said));
        byte[] knownAgain = Make.packed(true, abc, Make.bytes(1, 252), Coder.sequences(LITERAL, DISTANCE, MATCH, said));
        CHECK.dueContent("known ones again", Make.join(Make.HEAD, single, known, knownAgain), Make.text("abccccabccccabcccc"));
        Coder told = new Coder(6, 10, 10, 20, 23, -1);
        byte[] mixed = Make.packed(false, abc, Make.bytes(1, 128 + 16), told.told(), Make.bytes(2),
            Coder.sequences(told, new Coder(0, 2), MATCH, said));
        byte[] mixedAgain = Make.packed(true, abc, Make.bytes(1, 252), Coder.sequences(told, new Coder(0, 2), MATCH, said));
        CHECK.dueContent("one of each again", Make.join(Make.HEAD, mixed, mixedAgain), Make.text("abccccabcccc"));
        byte[] frame = Make.join(Make.HEAD, single, again);
        CHECK.dueFault("none in the next frame", Make.join(frame, Make.HEAD, again), 16, frame.length + AT + 7);
    }

    private static void wrongModes() {
        byte[] abc = Make.literals(Make.text("abc"));
        for (int low = 1; low < 4; low++) {
            CHECK.dueFault("MODES have " + low, Make.frame(abc, Make.bytes(1, SINGLES + low, 3, 2, 0, 4)), 15, AT + 7);
        }
        CHECK.dueFault("no literal lengths", Make.frame(abc, Make.bytes(1, 192 + 16 + 4, 2, 0, 4)), 16, AT + 7);
        CHECK.dueFault("no distances", Make.frame(abc, Make.bytes(1, 64 + 48 + 4, 3, 0, 4)), 16, AT + 7);
        CHECK.dueFault("no match lengths", Make.frame(abc, Make.bytes(1, 64 + 16 + 12, 3, 2, 4)), 16, AT + 7);
        CHECK.dueFault("the first symbol lacks", Make.frame(abc, Make.bytes(1, SINGLES)), 10, AT + 8);
        CHECK.dueFault("the second symbol lacks", Make.frame(abc, Make.bytes(1, SINGLES, 3)), 10, AT + 9);
        CHECK.dueFault("the third symbol lacks", Make.frame(abc, Make.bytes(1, SINGLES, 3, 2)), 10, AT + 10);
        CHECK.dueFault("a symbol lacks before a table does", Make.frame(abc, Make.bytes(1, 64 + 48 + 4)), 10, AT + 8);
        CHECK.dueFault("a table lacks before a symbol does", Make.frame(abc, Make.bytes(1, 192 + 16 + 4)), 16, AT + 7);
        CHECK.dueFault("36", abc(1, 36, 2, 0, 0, 2), 16, AT + 7);
        CHECK.dueFault("32", abc(1, 3, 32, 0, 0, 32), 16, AT + 7);
        CHECK.dueFault("53", abc(1, 3, 2, 53, 0, 2), 16, AT + 7);
        CHECK.dueFault("35 is none of these faults", abc(1, 35, 2, 0, 0, 18), 19, AT + 11);
        CHECK.dueFault("31 is none of these faults", abc(1, 3, 31, 0, 0, 31), 18, AT + 11);
        CHECK.dueFault("52 is none of these faults", abc(1, 3, 2, 52, 0, 18), 20, AT + 11);
    }

    private static void wrongTables() {
        byte[] abc = Make.literals(Make.text("abc"));
        byte[] rest = Make.times(1, 40);
        int[] lasts = {35, 31, 52};
        int[] greatest = {9, 8, 9};
        for (int kind = 0; kind < 3; kind++) {
            int modes = SINGLES + (1 << 6 - 2 * kind);
            byte[] before = Make.join(abc, Make.bytes(1, modes), Make.times(0, kind));
            String what = "share " + kind + ": ";
            CHECK.dueFault(what + "no byte", Make.frame(before), 16, AT + 7);
            CHECK.dueFault(what + "ends", Make.frame(before, Make.bytes(0)), 16, AT + 7);
            Coder big = new Coder(greatest[kind] + 1, 1 << greatest[kind], 1 << greatest[kind]);
            CHECK.dueFault(what + "order", Make.frame(before, big.told(), rest), 16, AT + 7);
            int[] points = new int[lasts[kind] + 1];
            points[lasts[kind]] = 32;
            byte[] last = new Coder(5, points).told();
            byte[] symbols = Make.times(0, 2 - kind);
            byte[] stream = Make.stream(0, 5, 0, 62, 0, 62, 0, 62);
            StateFrames x = new StateFrames();
            Check.put(x, Make.frame(before, last, symbols, stream));
            CHECK.due(what + "LAST has points", x.read(32768) < -16, true);
            points = new int[lasts[kind] + 2];
            points[lasts[kind] + 1] = 32;
            CHECK.dueFault(what + "beyond LAST", Make.frame(before, new Coder(5, points).told(), rest), 16, AT + 7);
            points[0] = 31;
            points[lasts[kind] + 1] = -1;
            CHECK.dueFault(what + "one beyond LAST", Make.frame(before, new Coder(5, points).told(), rest), 16, AT + 7);
            CHECK.dueFault(what + "something lacks", Make.frame(before, Make.bytes(1), Make.times(0, 60)), 16, AT + 7);
        }
        Coder told = new Coder(6, 10, 10, 20, 23, -1);
        byte[] bytes = told.told();
        for (int n = 0; n < bytes.length; n++) {
            CHECK.dueFault("a share cut at " + n, Make.frame(abc, Make.bytes(1, 128 + 16 + 4), Make.first(bytes, n)), 16, AT + 7);
        }
        byte[] just = new Coder(5, 10, 20, 2).told();
        CHECK.dueFault("a share that ends with the block and with a byte",
            Make.frame(abc, Make.bytes(1, 64 + 16 + 8, 3, 2), just), 17, AT + 10 + just.length);
        CHECK.dueFault("a share and no more", Make.frame(abc, Make.bytes(1, 128 + 16 + 4), bytes), 10, AT + 8 + bytes.length);
    }

    private static void wrongStreams() {
        byte[] abc = Make.literals(Make.text("abc"));
        byte[] head = Make.join(abc, Make.bytes(1, SINGLES, 3, 2, 0));
        int at = AT + 11;
        CHECK.dueFault("no byte", Make.frame(head), 17, at);
        CHECK.dueFault("a 0", Make.frame(head, Make.bytes(0)), 17, at);
        CHECK.dueFault("a 0 at last", Make.frame(head, Make.bytes(4, 0)), 17, at);
        CHECK.dueFault("a bit lacks", Make.frame(head, Make.stream(0, 1)), 17, at);
        CHECK.dueFault("a bit is left", Make.frame(head, Make.stream(0, 3)), 17, at);
        CHECK.dueFault("a byte is left", Make.frame(head, Make.stream(0, 10)), 17, at);
        byte[] known = Make.join(abc, Make.bytes(1, 0));
        CHECK.dueFault("no first states", Make.frame(known, Make.bytes(1)), 17, AT + 8);
        CHECK.dueFault("a bit of the first states lacks", Make.frame(known, Make.stream(0, 16)), 17, AT + 8);
        int[][] said = {{1, 4, 3}, {1, 5, 4}, {1, 6, 5}};
        byte[] three = Coder.sequences(LITERAL, DISTANCE, MATCH, said);
        CHECK.dueContent("three", Make.frame(abc, Make.bytes(3, 0), three),
            model(new byte[0], Make.text("abc"), new int[] {1, 1, 3}, new int[] {1, 2, 4}, new int[] {1, 3, 5}));
        StateFrames x = new StateFrames();
        CHECK.dueRead("told to be four", x, Make.frame(abc, Make.bytes(4, 0), three), 32768, -17, AT + 8);
        CHECK.due("told to be four: done", x.about(3), 2);
        CHECK.dueRead("told to be two", x, Make.frame(abc, Make.bytes(2, 0), three), 32768, -17, AT + 8);
        CHECK.due("told to be two: done", x.about(3), 2);
        CHECK.dueFault("match bits lack", abc(1, 3, 2, 36, 0, 3), 17, at);
        CHECK.dueFault("literal bits lack", abc(1, 16, 2, 0, 0, 2), 17, at);
    }

    private static void tooFar() {
        CHECK.dueFault("one too far", abc(1, 3, 2, 0, 3, 2), 18, AT + 11);
        CHECK.dueFault("the third of nothing", abc(1, 3, 1, 0, 1, 1), 18, AT + 11);
        CHECK.dueFault("the farthest", abc(1, 3, 31, 0, (1L << 31) - 1, 31), 18, AT + 11);
        byte[] before = differing(1024);
        int stream = AT + 1024 + 3 + 3 + 5;
        for (int distance : new int[] {1, 1023, 1024, 1025, 1026, 1027}) {
            byte[] block = singles(Make.bytes(16, 'a', 'b'), 1, 2, 10, 0, distance + 3 - 1024, 10);
            byte[] all = Make.join(Make.HEAD, Make.raw(false, before), Make.packed(true, block));
            if (distance < 1021) {
                block = singles(Make.bytes(16, 'a', 'b'), 1, 2, 2, 0, distance + 3 - 4, 2);
                all = Make.join(Make.HEAD, Make.raw(false, before), Make.packed(true, block));
            }
            if (distance <= 1024) {
                CHECK.dueContent("within the WINDOW by " + distance, all,
                    model(before, Make.text("ab"), new int[] {2, distance, 3}));
            } else {
                CHECK.dueFault("beyond the WINDOW by " + distance, all, 18, stream);
            }
        }
        byte[] frame = Make.join(Make.HEAD, Make.raw(true, before));
        CHECK.dueFault("into the frame before", Make.join(frame, abc(1, 3, 2, 0, 3, 2)), 18, frame.length + AT + 11);
    }

    private static void tooFarWithDictionary() {
        byte[] words = differing(100);
        StateFrames x = new StateFrames();
        Check.put(x, words);
        CHECK.due("learn", x.learn(), 100);
        byte[] abc = Make.text("abc");
        for (int distance : new int[] {3, 4, 20, 102, 103, 104}) {
            int s = 31 - Integer.numberOfLeadingZeros(distance + 3);
            byte[] all = abc(1, 3, s, 17, distance + 3 - (1 << s), s);
            if (distance < 104) {
                byte[] whole = model(words, abc, new int[] {3, distance, 20});
                CHECK.dueContent("dictionary by " + distance, x, all, java.util.Arrays.copyOfRange(whole, 100, whole.length));
            } else {
                CHECK.dueRead("dictionary by " + distance, x, all, 32768, -18, AT + 11);
            }
        }
        atTheWindow(x, 1021, 1024, 0);
        atTheWindow(x, 1021, 1025, 0);
        atTheWindow(x, 1021, 1124, 0);
        atTheWindow(x, 1021, 1125, 18);
        atTheWindow(x, 1022, 1025, 18);
        atTheWindow(x, 1022, 1024, 0);
        atTheWindow(x, 1022, 1026, 18);
        byte[] single = Make.join(Make.bytes(40, 181, 47, 253, 32, 30),
            Make.packed(true, Make.literals(abc), Make.bytes(1, SINGLES, 3, 6, 24), Make.stream(40, 6)));
        byte[] whole = model(words, abc, new int[] {3, 101, 27});
        CHECK.dueContent("beyond a small WINDOW, into the dictionary", x, single,
            java.util.Arrays.copyOfRange(whole, 100, whole.length));
        x.forget();
        CHECK.dueRead("forgotten", x, abc(1, 3, 2, 0, 3, 2), 32768, -18, AT + 11);
    }

    /** A WINDOW of 1024, some bytes before the block, and three literals. */
    private static void atTheWindow(StateFrames x, int before, int distance, int fault) {
        byte[] block = singles(Make.literals(Make.text("abc")), 1, 3, 10, 0, distance + 3 - 1024, 10);
        byte[] all = Make.join(Make.HEAD, Make.raw(false, differing(before)), Make.packed(true, block));
        String what = "behind " + before + " by " + distance;
        CHECK.dueRead(what, x, all, 32768, fault == 0 ? before + 6 : -fault,
            fault == 0 ? all.length : AT + before + 3 + 6 + 5);
    }

    private static void orderOfFaults() {
        CHECK.dueFault("19", abc(1, 4, 2, 0, 0, 2), 19, AT + 11);
        CHECK.dueFault("19 before 18", abc(1, 4, 5, 0, 31, 5), 19, AT + 11);
        CHECK.dueFault("17 before 19", abc(1, 4, 5, 0, 15, 4), 17, AT + 11);
        CHECK.dueFault("18 before 20", abc(1, 3, 5, 52, 0, 21), 18, AT + 11);
        CHECK.dueFault("18 before bits left", abc(1, 3, 5, 0, 0, 7), 18, AT + 11);
        StateFrames x = new StateFrames();
        byte[] longer = abc(1, 3, 2, 47, 0, 2, 0, 11);
        CHECK.dueRead("20 before 7", x, longer, 100, -20, AT + 11);
        CHECK.due("20: nothing has come", x.about(4), 0);
        CHECK.dueRead("7", x, abc(1, 3, 2, 0, 0, 2), 5, -7, AT + 11);
        CHECK.dueRead("7 is not yet", x, abc(1, 3, 2, 0, 0, 2), 6, 6, AT + 12);
        CHECK.dueRead("7 before bits left", x, abc(1, 3, 2, 0, 0, 3), 5, -7, AT + 11);
        CHECK.dueRead("7 of the literals left", x, abc(1, 2, 2, 0, 0, 2), 5, -7, AT + 11);
        CHECK.due("7 of the literals left: done", x.about(3), 1);
        CHECK.due("7 of the literals left: come", x.about(4), 5);
        CHECK.dueRead("bits left before that", x, abc(1, 2, 2, 0, 0, 3), 5, -17, AT + 11);
        CHECK.due("bits left before that: come", x.about(4), 5);
        CHECK.dueRead("literals alone", x, Make.frame(Make.literals(Make.text("abc")), Make.bytes(0)), 2, -7, AT);
        byte[] full = Make.join(Make.number(16L * 1022 + 13, 3), Make.bytes(7));
        CHECK.dueFault("20 of the literals left", Make.frame(singles(full, 1, 3, 2, 0, 0, 2)), 20, AT + 9);
        CHECK.dueFault("bits left before 20", Make.frame(singles(full, 1, 3, 2, 0, 0, 3)), 17, AT + 9);
        byte[] just = Make.join(Make.number(16L * 1021 + 13, 3), Make.bytes(7));
        CHECK.dueContent("just as much as a block may", Make.frame(singles(just, 1, 3, 2, 0, 0, 2)), Make.times(7, 1024));
        CHECK.dueContent("each block for itself", Make.join(Make.HEAD, Make.packed(false, singles(just, 1, 3, 2, 0, 0, 2)),
            Make.packed(true, singles(just, 1, 3, 2, 0, 0, 2))), Make.times(7, 2048));
        int[][] said = {{1, 4, 3}, {3, 4, 3}, {1, 4, 3}};
        byte[] states = Coder.sequences(LITERAL, DISTANCE, MATCH, said);
        byte[] block = Make.join(Make.literals(Make.text("abc")), Make.bytes(3, 0), states);
        CHECK.dueRead("19 in the second", x, Make.frame(block), 32768, -19, AT + 8);
        CHECK.due("19 in the second: done", x.about(3), 1);
        CHECK.due("19 in the second: come", x.about(4), 4);
        said = new int[][] {{4, 4, 3}};
        byte[] lacking = Coder.sequences(LITERAL, DISTANCE, MATCH, said);
        block = Make.join(Make.literals(Make.text("abc")), Make.bytes(2, 0), lacking);
        CHECK.dueFault("the next states lack before 19", Make.frame(block), 17, AT + 8);
    }
}
