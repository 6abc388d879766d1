/** Promise 7: the SEQUENCES of a block: number, MODES, tables and stream, and the faults 15 to 17, 19, 20 and 7. */
public final class SequencesTest {
    private static final Check CHECK = new Check("SequencesTest");
    private static final int AT = Make.INSIDE;
    private static final int MODES = AT + 7;

    /** Where the stream of a frame made by abc() stands. */
    private static final int STREAM = AT + 11;

    private static final byte[] ABC = Inside.ABC;
    private static final byte[] NOTHING = new byte[0];

    /** A block behind the one at fault, whose bytes must not be taken for its own. */
    private static final byte[] OTHER = Make.run(true, 1, 1023);

    /** A sequence of abc and a copy of three from 1 back, each table being one symbol. */
    private static final byte[] ONE = Make.join(Make.bytes(Inside.SINGLES, 3, 2, 0), Make.stream(0, 2));

    public static void main(String[] args) {
        numberInAByte();
        numberInTwoBytes();
        numberInThreeBytes();
        nothingFollowsNone();
        bytesFollowNone();
        numberEnds();
        modesLack();
        symbolsLack();
        modesHaveOneOrTwo();
        modesByKind();
        tableFromNowOn();
        tableAsItWas();
        noTableAsItWas();
        noTableInTheNextFrame();
        tablesInThisOrder();
        firstStates();
        additionalBits();
        nextStates();
        notBehindTheLastOne();
        streamHasNoByte();
        lastByteIsNone();
        firstStatesLack();
        bitsLackWithin();
        nextStatesLack();
        bitsAreLeft();
        moreLiteralsThanAreLeft();
        literalsThatAreLeft();
        blockComesToMore();
        blockComesToMoreByLiterals();
        moreThanMayBe();
        moreThanMayBeByLiterals();
        orderWithinEach();
        orderBehindAll();
        placeIsTheStream();
        CHECK.end();
    }

    /** Sequences of three bytes each that take no bits, behind four bytes; four LITERALS are left. */
    private static void dueNumber(int number, int... told) {
        StateFrames x = new StateFrames();
        byte[] block = Make.join(Make.literals(Make.text("abcd")), Make.bytes(told), Make.bytes(Inside.SINGLES, 0, 0, 0, 1));
        byte[] all = Make.join(Make.WIDE, Make.raw(false, Make.text("0123")), Make.packed(true, block));
        int most = (32768 - 4) / 3;
        boolean right = number < most;
        CHECK.dueRead(number + " sequences", x, all, 32768, right ? 8 + 3 * number : -7, right ? all.length : all.length - 1);
        CHECK.due(number + " sequences: done", x.about(3), right ? number : most);
    }

    private static void numberInAByte() {
        CHECK.sentence("their number: a byte x, if it is below 128");
        for (int x : new int[] {1, 2, 63, 64, 126, 127}) {
            dueNumber(x, x);
        }
        CHECK.dueContent("one", Make.frame(ABC, Make.bytes(1), ONE), Make.text("abcccc"));
    }

    private static void numberInTwoBytes() {
        CHECK.sentence("256 * (x - 128) + the next byte, if x is below 255");
        dueNumber(1, 128, 1);
        dueNumber(127, 128, 127);
        dueNumber(128, 128, 128);
        dueNumber(255, 128, 255);
        dueNumber(256, 129, 0);
        dueNumber(511, 129, 255);
        dueNumber(512, 130, 0);
        dueNumber(10920, 128 + 42, 168);
        dueNumber(10921, 128 + 42, 169);
        dueNumber(256 * 126 + 255, 254, 255);
        CHECK.dueContent("one in two bytes", Make.frame(ABC, Make.bytes(128, 1), ONE), Make.text("abcccc"));
    }

    /** So many never fit into OUT, so that their number can only be told from one that does. */
    private static void numberInThreeBytes() {
        CHECK.sentence("else a number of the next two bytes + 32512");
        dueNumber(32512, 255, 0, 0);
        dueNumber(32513, 255, 1, 0);
        dueNumber(32512 + 256, 255, 0, 1);
        dueNumber(32512 + 65535, 255, 255, 255);
    }

    private static void nothingFollowsNone() {
        CHECK.sentence("If it is 0, nothing follows.");
        CHECK.dueContent("in a byte", Make.frame(ABC, Make.bytes(0)), Make.text("abc"));
        CHECK.dueContent("in two bytes", Make.frame(ABC, Make.bytes(128, 0)), Make.text("abc"));
        CHECK.dueContent("a block behind", Make.join(Make.HEAD, Make.packed(false, ABC, Make.bytes(0)), Make.run(true, 'x', 2)),
            Make.text("abcxx"));
        CHECK.dueContent("of no LITERALS", Make.frame(Make.bytes(0, 0)), NOTHING);
    }

    private static void bytesFollowNone() {
        CHECK.sentence("15 bytes follow 0 sequences");
        CHECK.dueFault("one", Make.frame(ABC, Make.bytes(0, 0)), 15, MODES);
        CHECK.dueFault("more", Make.frame(ABC, Make.bytes(0), ONE), 15, MODES);
        CHECK.dueFault("behind two bytes", Make.frame(ABC, Make.bytes(128, 0, 0)), 15, MODES + 1);
        CHECK.dueFault("MODES that have 1", Make.frame(ABC, Make.bytes(0, 1)), 15, MODES);
        CHECK.dueFault("of no LITERALS", Make.frame(Make.bytes(0, 0, 7)), 15, AT + 2);
    }

    /** A block that ends in this way, alone and with another one behind it. */
    private static void dueEnd(String what, byte[]... parts) {
        byte[] inside = Make.join(parts);
        CHECK.dueFault(what, Make.frame(inside), 10, AT + inside.length);
        CHECK.dueFault(what + ", a block behind", Make.join(Make.HEAD, Make.packed(false, inside), OTHER), 10, AT + inside.length);
    }

    private static void numberEnds() {
        CHECK.sentence("10 it ends where something has to come (PLACE: its end) (in the number of sequences)");
        dueEnd("no byte", ABC);
        dueEnd("the second byte of 128", ABC, Make.bytes(128));
        dueEnd("the second byte of 254", ABC, Make.bytes(254));
        dueEnd("the second byte of 255", ABC, Make.bytes(255));
        dueEnd("the third byte of 255", ABC, Make.bytes(255, 0));
    }

    private static void modesLack() {
        CHECK.sentence("10 it ends where something has to come (PLACE: its end) (MODES)");
        dueEnd("behind one byte", ABC, Make.bytes(1));
        dueEnd("behind 127", ABC, Make.bytes(127));
        dueEnd("behind two bytes", ABC, Make.bytes(128, 1));
        dueEnd("behind three bytes", ABC, Make.bytes(255, 0, 0));
    }

    private static void symbolsLack() {
        CHECK.sentence("10 it ends where something has to come (PLACE: its end) (a symbol)");
        dueEnd("the first", ABC, Make.bytes(1, Inside.SINGLES));
        dueEnd("the second", ABC, Make.bytes(1, Inside.SINGLES, 3));
        dueEnd("the third", ABC, Make.bytes(1, Inside.SINGLES, 3, 2));
        dueEnd("of distances, behind a known share", ABC, Make.bytes(1, 16));
        dueEnd("of match lengths, behind known shares", ABC, Make.bytes(1, 4));
        byte[] share = new Coder(5, 16, 16).told();
        dueEnd("of distances, behind a share told", ABC, Make.bytes(1, 128 + 16), share);
        CHECK.dueFault("not a symbol, but the stream", Make.frame(ABC, Make.bytes(1, Inside.SINGLES, 3, 2, 0)), 17, STREAM);
    }

    private static void modesHaveOneOrTwo() {
        CHECK.sentence("15 .. MODES have 1 or 2");
        for (int low = 1; low < 4; low++) {
            CHECK.dueFault(low + " of symbols", Make.frame(ABC, Make.bytes(1, Inside.SINGLES + low, 3, 2, 0, 4)), 15, MODES);
            CHECK.dueFault(low + " alone", Make.frame(ABC, Make.bytes(1, low)), 15, MODES);
            CHECK.dueFault(low + " before 16", Make.frame(ABC, Make.bytes(1, Inside.REPEATED + low, 4)), 15, MODES);
            CHECK.dueFault(low + " behind two bytes", Make.frame(ABC, Make.bytes(128, 1, low)), 15, MODES + 1);
            CHECK.dueFault(low + " behind three bytes", Make.frame(ABC, Make.bytes(255, 0, 0, low)), 15, MODES + 2);
        }
    }

    /** One table is told by a mode, the others are known: what follows is read as that table alone. */
    private static void modesByKind() {
        CHECK.sentence("A byte of MODES: 64 * a + 16 * b + 4 * c: of LITERAL LENGTHS, DISTANCES, MATCH LENGTHS");
        int[][] said = {{3, 4, 3}};
        Coder[] known = {Inside.LITERAL, Inside.DISTANCE, Inside.MATCH};
        Coder[] single = {new Coder(0, 3), new Coder(0, 2), new Coder(0, 0)};
        Coder[] told = {new Coder(6, 10, 10, 20, 23, -1), new Coder(7, 50, 50, 28), new Coder(8, 100, 156)};
        CHECK.dueContent("all are known", Make.frame(ABC, Make.bytes(1, 0),
            Coder.sequences(known[0], known[1], known[2], said)), Make.text("abcccc"));
        for (int kind = 0; kind < 3; kind++) {
            Coder[] one = known.clone();
            one[kind] = single[kind];
            int symbol = single[kind].symbolAt(0);
            CHECK.dueContent("a symbol of kind " + kind, Make.frame(ABC, Make.bytes(1, 64 >> 2 * kind, symbol),
                Coder.sequences(one[0], one[1], one[2], said)), Make.text("abcccc"));
            one[kind] = told[kind];
            CHECK.dueContent("a share of kind " + kind, Make.frame(ABC, Make.bytes(1, 128 >> 2 * kind), told[kind].told(),
                Coder.sequences(one[0], one[1], one[2], said)), Make.text("abcccc"));
        }
        CHECK.dueContent("all are told", Make.frame(ABC, Make.bytes(1, 128 + 32 + 8), told[0].told(), told[1].told(),
            told[2].told(), Coder.sequences(told[0], told[1], told[2], said)), Make.text("abcccc"));
    }

    private static void tableFromNowOn() {
        CHECK.sentence("by its mode the TABLE from now on: 0 the KNOWN share (which a later mode changes)");
        byte[] single = Make.packed(false, ABC, Make.bytes(1), ONE);
        int[][] said = {{3, 4, 3}};
        byte[] known = Coder.sequences(Inside.LITERAL, Inside.DISTANCE, Inside.MATCH, said);
        byte[] again = Make.packed(true, ABC, Make.bytes(1, Inside.REPEATED), known);
        byte[] third = Make.text("abccccabccccabcccc");
        CHECK.dueContent("a symbol, then known", Make.join(Make.HEAD, single, Make.packed(false, ABC, Make.bytes(1, 0), known), again), third);
        Coder share = new Coder(5, 8, 8, 8, 8);
        byte[] told = Make.packed(false, ABC, Make.bytes(1, 128 + 32 + 8), share.told(), share.told(), share.told(),
            Coder.sequences(share, share, share, said));
        CHECK.dueContent("told, then known", Make.join(Make.HEAD, told, Make.packed(false, ABC, Make.bytes(1, 0), known), again), third);
        byte[] toldAgain = Make.packed(true, ABC, Make.bytes(1, Inside.REPEATED), Coder.sequences(share, share, share, said));
        CHECK.dueContent("a symbol, then told", Make.join(Make.HEAD, single, told, toldAgain), third);
        byte[] singleAgain = Make.packed(true, ABC, Make.bytes(1, Inside.REPEATED), Make.stream(0, 2));
        CHECK.dueContent("told, then a symbol", Make.join(Make.HEAD, told, single, singleAgain), third);
    }

    private static void tableAsItWas() {
        CHECK.sentence("3 the TABLE as it was");
        byte[] single = Make.packed(false, ABC, Make.bytes(1), ONE);
        byte[] again = Make.packed(false, ABC, Make.bytes(1, Inside.REPEATED), Make.stream(0, 2));
        byte[] last = Make.packed(true, ABC, Make.bytes(1, Inside.REPEATED), Make.stream(0, 2));
        CHECK.dueContent("once", Make.join(Make.HEAD, single, last), Make.text("abccccabcccc"));
        CHECK.dueContent("twice", Make.join(Make.HEAD, single, again, last), Make.text("abccccabccccabcccc"));
        CHECK.dueContent("behind no sequences", Make.join(Make.HEAD, single, Make.packed(false, ABC, Make.bytes(0)), last),
            Make.text("abccccabcabcccc"));
        CHECK.dueContent("behind plain blocks", Make.join(Make.HEAD, single, Make.raw(false, Make.text("x")), Make.run(false, 'y', 2), last),
            Make.text("abccccxyyabcccc"));
        Coder told = new Coder(6, 10, 10, 20, 23, -1);
        Coder two = new Coder(0, 2);
        int[][] said = {{3, 4, 3}};
        byte[] mixed = Make.packed(false, ABC, Make.bytes(1, 128 + 16), told.told(), Make.bytes(2),
            Coder.sequences(told, two, Inside.MATCH, said));
        byte[] mixedAgain = Make.packed(true, ABC, Make.bytes(1, Inside.REPEATED), Coder.sequences(told, two, Inside.MATCH, said));
        CHECK.dueContent("one of each", Make.join(Make.HEAD, mixed, mixedAgain), Make.text("abccccabcccc"));
        for (int kind = 0; kind < 3; kind++) {
            int[] symbols = {3, 2, 0};
            byte[] others = NOTHING;
            for (int k = 0; k < 3; k++) {
                others = k == kind ? others : Make.join(others, Make.bytes(symbols[k]));
            }
            int modes = Inside.SINGLES + (128 >> 2 * kind);
            CHECK.dueContent("kind " + kind + " alone", Make.join(Make.HEAD, single,
                Make.packed(true, ABC, Make.bytes(1, modes), others, Make.stream(0, 2))), Make.text("abccccabcccc"));
        }
    }

    private static void noTableAsItWas() {
        CHECK.sentence("16 .. there is no TABLE as it was (of each of these the PLACE is MODES)");
        CHECK.dueFault("literal lengths", Make.frame(ABC, Make.bytes(1, 192 + 16 + 4, 2, 0, 4)), 16, MODES);
        CHECK.dueFault("distances", Make.frame(ABC, Make.bytes(1, 64 + 48 + 4, 3, 0, 4)), 16, MODES);
        CHECK.dueFault("match lengths", Make.frame(ABC, Make.bytes(1, 64 + 16 + 12, 3, 2, 4)), 16, MODES);
        CHECK.dueFault("none of them", Make.frame(ABC, Make.bytes(1, Inside.REPEATED, 4)), 16, MODES);
        CHECK.dueFault("behind known shares", Make.frame(ABC, Make.bytes(1, 12, 4)), 16, MODES);
        CHECK.dueFault("behind two bytes", Make.frame(ABC, Make.bytes(128, 1, Inside.REPEATED, 4)), 16, MODES + 1);
        byte[] none = Make.packed(false, ABC, Make.bytes(0));
        byte[] again = Make.packed(true, ABC, Make.bytes(1, Inside.REPEATED), Make.stream(0, 2));
        CHECK.dueFault("behind a block of no sequences", Make.join(Make.HEAD, none, again), 16, MODES + none.length);
    }

    private static void noTableInTheNextFrame() {
        CHECK.sentence("At the beginning of a frame there are else .. no TABLES.");
        int[][] said = {{3, 4, 3}};
        byte[][] tables = {ONE, Make.join(Make.bytes(0), Coder.sequences(Inside.LITERAL, Inside.DISTANCE, Inside.MATCH, said))};
        byte[] again = Make.packed(true, ABC, Make.bytes(1, Inside.REPEATED), Make.stream(0, 2));
        for (int k = 0; k < tables.length; k++) {
            byte[] frame = Make.frame(ABC, Make.bytes(1), tables[k]);
            CHECK.dueFault("way " + k, Make.join(frame, Make.HEAD, again), 16, frame.length + MODES);
            StateFrames x = new StateFrames();
            CHECK.dueRead("way " + k + ", one read", x, frame, 9, 6, frame.length);
            CHECK.dueRead("way " + k + ", the next read", x, Make.join(Make.HEAD, again), 9, -16, MODES);
        }
    }

    private static void tablesInThisOrder() {
        CHECK.sentence("for each of these, in this order, by its mode the TABLE");
        CHECK.dueFault("a symbol lacks before a table does", Make.frame(ABC, Make.bytes(1, 64 + 48 + 4)), 10, AT + 8);
        CHECK.dueFault("a table lacks before a symbol does", Make.frame(ABC, Make.bytes(1, 192 + 16 + 4)), 16, MODES);
        CHECK.dueFault("36 before a symbol lacks", Make.frame(ABC, Make.bytes(1, Inside.SINGLES, 36)), 16, MODES);
        CHECK.dueFault("a symbol lacks before a share does", Make.frame(ABC, Make.bytes(1, 64 + 32 + 4)), 10, AT + 8);
        CHECK.dueFault("a share lacks before a symbol does", Make.frame(ABC, Make.bytes(1, 128 + 16 + 4)), 16, MODES);
        CHECK.dueFault("35, 31 and 52, each of its kind", Inside.abc(1, 35, 31, 52, 0, 31, 0, 32), 19, STREAM);
        CHECK.dueFault("53 as a literal length", Inside.abc(1, 53, 2, 0, 0, 2), 16, MODES);
        CHECK.dueFault("35 as a distance", Inside.abc(1, 3, 35, 0, 0, 2), 16, MODES);
    }

    /** Shares of three orders: only in this order do the states lead to these symbols. */
    private static void firstStates() {
        CHECK.sentence("Then a STREAM: the first states of the three, L bits each, in this order.");
        Coder literal = new Coder(9, 100, 200, -1, 0, 0, 0, 0, 0, 180, 0, 0, 0, 30, -1);
        Coder distance = new Coder(8, 0, 0, 100, 120, -1, 35);
        Coder match = new Coder(5, 10, -1, -1, 0, 0, 20);
        int[][] said = {{13, 4, 3}, {1, 9, 4}, {2, 17, 5}, {0, 5, 8}, {8, 33, 3}, {12, 11, 8}, {1, 6, 3}};
        int[][] meant = {{13, 1, 3}, {1, 6, 4}, {2, 14, 5}, {0, 2, 8}, {8, 30, 3}, {12, 8, 8}, {1, 3, 3}};
        byte[] literals = Inside.differing(40);
        byte[] block = Make.join(Make.literals(literals), Make.bytes(said.length, 128 + 32 + 8),
            literal.told(), distance.told(), match.told(), Coder.sequences(literal, distance, match, said));
        CHECK.dueContent("orders 9, 8 and 5", Make.frame(block), Inside.model(NOTHING, literals, meant));
        CHECK.dueContent("order 0, thrice", Inside.abc(1, 3, 2, 0, 0, 2), Make.text("abcccc"));
    }

    private static void additionalBits() {
        CHECK.sentence("then the additional bits of the distance, the match length, the literal length");
        byte[] literals = Inside.differing(40);
        byte[] block = Inside.singles(Make.literals(literals), 2, 21, 3, 38, 5, 3, 6, 3, 1, 2, 2, 3, 1, 3, 0, 2);
        // Only eleven LITERALS are left for the second one, which would have 28.
        CHECK.dueFault("the second has too many LITERALS", Make.frame(block), 19, AT + 43 + 5);
        block = Inside.singles(Make.literals(literals), 1, 21, 3, 38, 5, 3, 6, 3, 1, 2);
        CHECK.dueContent("each its own", Make.frame(block), Inside.model(NOTHING, literals, new int[] {29, 10, 57}));
        block = Inside.singles(Make.literals(literals), 2, 16, 3, 32, 7, 3, 0, 1, 1, 1, 0, 3, 1, 1, 0, 1);
        CHECK.dueContent("of two", Make.frame(block),
            Inside.model(NOTHING, literals, new int[] {17, 12, 35}, new int[] {16, 5, 36}));
    }

    private static void nextStates() {
        CHECK.sentence("then .. the next states of literal length, match length, distance");
        byte[] literals = Inside.differing(200);
        int[][] said = new int[52][];
        int[][] meant = new int[52][];
        for (int k = 0; k < said.length; k++) {
            int distance = k % 7 == 6 ? 5 + k : 1 + k % 5;
            said[k] = new int[] {k == 0 ? 15 : k % 7, distance + 3, 3 + k % 32};
            meant[k] = new int[] {said[k][0], distance, said[k][2]};
        }
        byte[] block = Make.join(Make.literals(literals), Make.bytes(said.length, 0),
            Coder.sequences(Inside.LITERAL, Inside.DISTANCE, Inside.MATCH, said));
        CHECK.dueContent("52 of known shares", Make.join(Make.WIDE, Make.packed(true, block)), Inside.model(NOTHING, literals, meant));
    }

    private static void notBehindTheLastOne() {
        CHECK.sentence("then, but behind the last one, the next states");
        int[][] one = {{3, 4, 3}};
        byte[] stream = Coder.sequences(Inside.LITERAL, Inside.DISTANCE, Inside.MATCH, one);
        CHECK.due("bytes of 17 bits of states, 2 of the distance", stream.length, 3);
        CHECK.dueContent("the only one", Make.frame(ABC, Make.bytes(1, 0), stream), Make.text("abcccc"));
        int[][] two = {{1, 4, 3}, {2, 4, 3}};
        stream = Coder.sequences(Inside.LITERAL, Inside.DISTANCE, Inside.MATCH, two);
        CHECK.dueContent("the second of two", Make.frame(ABC, Make.bytes(2, 0), stream), Make.text("aaaabcccc"));
        CHECK.dueFault("next states behind the last one", Make.frame(ABC, Make.bytes(1, 0), stream), 17, MODES + 1);
    }

    private static void streamHasNoByte() {
        CHECK.sentence("17 the stream of sequences has no byte");
        CHECK.dueFault("behind symbols", Make.frame(ABC, Make.bytes(1, Inside.SINGLES, 3, 2, 0)), 17, STREAM);
        CHECK.dueFault("behind MODES", Make.frame(ABC, Make.bytes(1, 0)), 17, MODES + 1);
        byte[] block = Make.packed(false, ABC, Make.bytes(1, 0));
        CHECK.dueFault("a block behind", Make.join(Make.HEAD, block, OTHER), 17, MODES + 1);
    }

    private static void lastByteIsNone() {
        CHECK.sentence("17 .. or its last one is 0");
        byte[] head = Make.join(ABC, Make.bytes(1, Inside.SINGLES, 3, 2, 0));
        CHECK.dueFault("the only byte", Make.frame(head, Make.bytes(0)), 17, STREAM);
        CHECK.dueFault("the second of two", Make.frame(head, Make.bytes(4, 0)), 17, STREAM);
        CHECK.dueFault("of sequences that take no bits", Make.frame(ABC, Make.bytes(1, Inside.SINGLES, 3, 0, 0, 0)), 17, STREAM);
        CHECK.dueContent("1: they take no bits", Make.frame(ABC, Make.bytes(1, Inside.SINGLES, 3, 0, 0, 1)), Make.text("abcccc"));
    }

    private static void firstStatesLack() {
        CHECK.sentence("17 .. or bits lack for the first states");
        byte[] known = Make.join(ABC, Make.bytes(1, 0));
        for (int bits = 0; bits < 17; bits++) {
            CHECK.dueFault(bits + " of 17 bits", Make.frame(known, Make.stream(0, bits)), 17, MODES + 1);
        }
        int literal = Inside.LITERAL.states(1)[0];
        int distance = Inside.DISTANCE.states(0)[0];
        int match = Inside.MATCH.states(0)[0];
        CHECK.dueContent("just 17 bits", Make.frame(Make.bytes(8, 'x', 1, 0), Make.stream(literal, 6, distance, 5, match, 6)),
            Make.text("xxxx"));
    }

    private static void bitsLackWithin() {
        CHECK.sentence("17 .. or bits lack .. within a sequence");
        CHECK.dueFault("of the distance", Inside.abc(1, 3, 2, 0, 0, 1), 17, STREAM);
        CHECK.dueFault("all of the distance", Inside.abc(1, 3, 2, 0), 17, STREAM);
        CHECK.dueFault("of the farthest distance", Inside.abc(1, 3, 31, 0, 0, 30), 17, STREAM);
        CHECK.dueFault("of the match length", Inside.abc(1, 3, 2, 36, 0, 3), 17, STREAM);
        CHECK.dueFault("of the longest match length", Inside.abc(1, 3, 2, 52, 0, 17), 17, STREAM);
        CHECK.dueFault("of the literal length", Inside.abc(1, 16, 2, 0, 0, 2), 17, STREAM);
        CHECK.dueFault("of the longest literal length", Inside.abc(1, 35, 2, 0, 0, 17), 17, STREAM);
        StateFrames x = new StateFrames();
        CHECK.dueRead("of the second", x, Inside.abc(2, 1, 2, 0, 0, 3), 32768, -17, STREAM);
        CHECK.due("of the second: done", x.about(3), 1);
        CHECK.dueRead("all of the second", x, Inside.abc(2, 1, 2, 0, 0, 2), 32768, -17, STREAM);
        CHECK.due("all of the second: done", x.about(3), 1);
    }

    /** One kind's states take a bit each; the others are one symbol. */
    private static void nextStatesLack() {
        CHECK.sentence("17 .. or bits lack .. within a sequence (for the next states)");
        Coder even = new Coder(5, 0, 0, 16, 16);
        int two = even.states(2)[0];
        for (int kind = 0; kind < 3; kind++) {
            byte[][] tables = {Make.bytes(1), Make.bytes(2), Make.bytes(0)};
            tables[kind] = even.told();
            byte[] head = Make.join(Make.literals(Make.text("abcdef")),
                Make.bytes(2, Inside.SINGLES + (64 >> 2 * kind)), Make.join(tables));
            StateFrames x = new StateFrames();
            byte[] lacks = Make.frame(head, Make.stream(two, 5, 0, 2));
            CHECK.dueRead("a bit, kind " + kind, x, lacks, 32768, -17, AT + head.length);
            CHECK.due("a bit, kind " + kind + ": done", x.about(3), 0);
            CHECK.due("a bit, kind " + kind + ": come", x.about(4), 0);
            byte[] there = Make.frame(head, Make.stream(two, 5, 0, 2, 0, 1));
            CHECK.dueRead("none, kind " + kind, x, there, 32768, -17, AT + head.length);
            CHECK.due("none, kind " + kind + ": done", x.about(3), 1);
        }
    }

    private static void bitsAreLeft() {
        CHECK.sentence("17 .. or are left behind the last one");
        CHECK.dueFault("a bit", Inside.abc(1, 3, 2, 0, 0, 3), 17, STREAM);
        CHECK.dueFault("a byte", Inside.abc(1, 3, 2, 0, 0, 10), 17, STREAM);
        CHECK.dueFault("a bit where none is taken", Inside.abc(1, 3, 0, 0, 0, 1), 17, STREAM);
        StateFrames x = new StateFrames();
        CHECK.dueRead("a whole sequence", x, Inside.abc(2, 1, 2, 0, 0, 2, 0, 2, 0, 2), 32768, -17, STREAM);
        CHECK.due("a whole sequence: done", x.about(3), 2);
        CHECK.due("a whole sequence: come", x.about(4), 8);
        CHECK.dueContent("none", Inside.abc(3, 1, 2, 0, 0, 2, 0, 2, 0, 2), Make.text("aaaabbbbcccc"));
    }

    private static void moreLiteralsThanAreLeft() {
        CHECK.sentence("19 a sequence has more LITERALS than are left");
        CHECK.dueFault("one more", Inside.abc(1, 4, 2, 0, 0, 2), 19, STREAM);
        CHECK.dueContent("just as many", Inside.abc(1, 3, 2, 0, 0, 2), Make.text("abcccc"));
        CHECK.dueFault("very many", Inside.abc(1, 35, 2, 0, 0, 18), 19, STREAM);
        CHECK.dueFault("one of none", Make.frame(Inside.singles(Make.bytes(0), 1, 1, 2, 0, 0, 2)), 19, AT + 6);
        StateFrames x = new StateFrames();
        CHECK.dueRead("the second has one more", x, Inside.abc(2, 2, 2, 0, 0, 2, 0, 2), 32768, -19, STREAM);
        CHECK.due("the second has one more: done", x.about(3), 1);
        CHECK.due("the second has one more: come", x.about(4), 5);
        byte[] many = Make.join(Make.WIDE, Make.packed(true, Inside.singles(Inside.times(7, 32767), 1, 34, 2, 0, 0, 2, 0, 15)));
        CHECK.dueFault("32768 of 32767", many, 19, AT + 9);
    }

    private static void literalsThatAreLeft() {
        CHECK.sentence("Behind all sequences the LITERALS that are left stand for themselves.");
        CHECK.dueContent("none", Inside.abc(1, 3, 2, 0, 0, 2), Make.text("abcccc"));
        CHECK.dueContent("one", Inside.abc(1, 2, 2, 0, 0, 2), Make.text("abbbbc"));
        byte[] all = Make.join(Make.HEAD, Make.raw(false, Make.text("x")), Make.packed(true, Inside.singles(ABC, 1, 0, 2, 0, 0, 2)));
        CHECK.dueContent("all", all, Make.text("xxxxabc"));
        CHECK.dueContent("of no sequences", Make.frame(ABC, Inside.NONE), Make.text("abc"));
    }

    private static void blockComesToMore() {
        CHECK.sentence("20 the block comes to more than MOST OF A BLOCK");
        // The match lengths 515 .. 1026 by symbol 45, with 9 additional bits.
        CHECK.dueContent("just so much", Make.frame(Inside.singles(ABC, 1, 3, 2, 45, 0, 2, 1021 - 515, 9)),
            Make.join(Make.text("ab"), Make.times('c', 1022)));
        CHECK.dueFault("one more", Make.frame(Inside.singles(ABC, 1, 3, 2, 45, 0, 2, 1022 - 515, 9)), 20, STREAM);
        StateFrames x = new StateFrames();
        byte[] two = Make.literals(Make.text("ab"));
        byte[] first = Make.frame(Inside.singles(two, 2, 1, 2, 44, 0, 2, 514 - 259, 8, 0, 2, 508 - 259, 8));
        CHECK.dueRead("two of them, just so much", x, first, 32768, 1024, first.length);
        byte[] second = Make.frame(Inside.singles(two, 2, 1, 2, 44, 0, 2, 514 - 259, 8, 0, 2, 509 - 259, 8));
        CHECK.dueRead("two of them, one more", x, second, 32768, -20, STREAM - 1);
        CHECK.due("two of them, one more: done", x.about(3), 1);
        CHECK.due("two of them, one more: come", x.about(4), 515);
        byte[] just = Inside.singles(Inside.times(7, 1021), 1, 3, 2, 0, 0, 2);
        CHECK.dueContent("each block for itself", Make.join(Make.HEAD, Make.packed(false, just), Make.packed(true, just)),
            Make.times(7, 2048));
        byte[] single = Make.bytes(40, 181, 47, 253, 32, 12);
        CHECK.dueContent("of a WINDOW of 12", Make.join(single, Make.packed(true, Make.bytes(8, 'a', 1, 84, 1, 2, 8), Make.stream(0, 2))),
            Make.times('a', 12));
        byte[] eleven = Make.bytes(40, 181, 47, 253, 32, 11);
        CHECK.dueFault("of a WINDOW of 11", Make.join(eleven, Make.packed(true, Make.bytes(8, 'a', 1, 84, 1, 2, 8), Make.stream(0, 2))),
            20, AT + 7);
        byte[] one = Make.literals(Make.bytes(5));
        for (int over = 0; over < 2; over++) {
            byte[] block = Inside.singles(one, 1, 1, 2, 52, 0, 2, 131071 + over - 65539, 16);
            CHECK.dueFault("131072, over by " + over, Make.join(Make.WIDE, Make.packed(true, block)), over == 0 ? 7 : 20, AT + 9);
        }
    }

    private static void blockComesToMoreByLiterals() {
        CHECK.sentence("20 the block comes to more than MOST OF A BLOCK (by the LITERALS left)");
        CHECK.dueContent("just so much", Make.frame(Inside.singles(Inside.times(7, 1021), 1, 3, 2, 0, 0, 2)), Make.times(7, 1024));
        StateFrames x = new StateFrames();
        byte[] more = Make.frame(Inside.singles(Inside.times(7, 1022), 1, 3, 2, 0, 0, 2));
        CHECK.dueRead("one more", x, more, 32768, -20, AT + 9);
        CHECK.due("one more: done", x.about(3), 1);
        CHECK.due("one more: come", x.about(4), 6);
    }

    private static void moreThanMayBe() {
        CHECK.sentence("7 .. (.. of kind 2 the stream of sequences)");
        StateFrames x = new StateFrames();
        byte[] six = Inside.abc(1, 3, 2, 0, 0, 2);
        CHECK.dueRead("just as many", x, six, 6, 6, six.length);
        CHECK.dueRead("one more", x, six, 5, -7, STREAM);
        CHECK.due("one more: come", x.about(4), 0);
        CHECK.dueRead("none may be", x, six, 0, -7, STREAM);
        CHECK.dueRead("in a second frame", x, Make.join(six, six), 11, -7, six.length + STREAM);
        byte[] twelve = Inside.abc(3, 1, 2, 0, 0, 2, 0, 2, 0, 2);
        CHECK.dueRead("by the third", x, twelve, 11, -7, STREAM);
        CHECK.due("by the third: done", x.about(3), 2);
        CHECK.due("by the third: come", x.about(4), 8);
        byte[] full = Make.join(Make.WIDE, Make.run(false, 1, 32768 - 3));
        byte[] copy = Make.packed(true, Inside.singles(Make.bytes(0), 1, 0, 2, 0, 0, 2));
        CHECK.dueContent("up to 32,768", Make.join(full, copy), Make.times(1, 32768));
        byte[] over = Make.packed(true, Inside.singles(Make.bytes(0), 1, 0, 2, 1, 0, 2));
        CHECK.dueFault("up to 32,769", Make.join(full, over), 7, full.length + 3 + 6);
    }

    private static void moreThanMayBeByLiterals() {
        CHECK.sentence("7 .. (.. of kind 2 the stream of sequences) (by the LITERALS left)");
        StateFrames x = new StateFrames();
        byte[] six = Inside.abc(1, 2, 2, 0, 0, 2);
        CHECK.dueRead("just as many", x, six, 6, 6, six.length);
        CHECK.dueRead("one more", x, six, 5, -7, STREAM);
        CHECK.due("one more: done", x.about(3), 1);
        CHECK.due("one more: come", x.about(4), 5);
    }

    private static void orderWithinEach() {
        CHECK.sentence("within each sequence: 17, 19, 18, 20, 7");
        CHECK.dueFault("17 before 19", Inside.abc(1, 4, 5, 0, 15, 4), 17, STREAM);
        CHECK.dueFault("17 before 18", Inside.abc(1, 3, 5, 0, 15, 4), 17, STREAM);
        CHECK.dueFault("17 before 20", Inside.abc(1, 3, 2, 52, 0, 17), 17, STREAM);
        int[][] one = {{4, 4, 3}};
        byte[] lacking = Coder.sequences(Inside.LITERAL, Inside.DISTANCE, Inside.MATCH, one);
        CHECK.dueFault("17 of the next states before 19", Make.frame(ABC, Make.bytes(2, 0), lacking), 17, MODES + 1);
        CHECK.dueFault("19 before 18", Inside.abc(1, 4, 5, 0, 31, 5), 19, STREAM);
        CHECK.dueFault("19 before 20", Inside.abc(1, 4, 2, 52, 0, 18), 19, STREAM);
        CHECK.dueFault("18 before 20", Inside.abc(1, 3, 5, 52, 0, 21), 18, STREAM);
        StateFrames x = new StateFrames();
        CHECK.dueRead("17 before 7", x, Inside.abc(1, 3, 2, 0, 0, 1), 0, -17, STREAM);
        CHECK.dueRead("19 before 7", x, Inside.abc(1, 4, 2, 0, 0, 2), 0, -19, STREAM);
        CHECK.dueRead("18 before 7", x, Inside.abc(1, 3, 5, 0, 0, 5), 0, -18, STREAM);
        CHECK.dueRead("20 before 7", x, Inside.abc(1, 3, 2, 47, 0, 2, 0, 11), 0, -20, STREAM);
        CHECK.due("20 before 7: come", x.about(4), 0);
        CHECK.dueRead("7 of the first before 17 of the second", x, Inside.abc(2, 1, 2, 0, 0, 2), 3, -7, STREAM);
        CHECK.dueRead("18 of the first before 19 of the second", x, Inside.abc(2, 2, 3, 0, 0, 6), 99, -18, STREAM);
    }

    private static void orderBehindAll() {
        CHECK.sentence("the LITERALS left: 20, 7, behind 17 of bits left");
        StateFrames x = new StateFrames();
        CHECK.dueRead("7 of a sequence before bits left", x, Inside.abc(1, 3, 2, 0, 0, 3), 5, -7, STREAM);
        CHECK.dueRead("18 before bits left", x, Inside.abc(1, 3, 5, 0, 0, 7), 5, -18, STREAM);
        CHECK.dueRead("bits left before 7 of the LITERALS left", x, Inside.abc(1, 2, 2, 0, 0, 3), 5, -17, STREAM);
        CHECK.due("bits left: come", x.about(4), 5);
        byte[] more = Inside.times(7, 1022);
        CHECK.dueRead("bits left before 20", x, Make.frame(Inside.singles(more, 1, 3, 2, 0, 0, 3)), 9, -17, AT + 9);
        CHECK.dueRead("20 before 7", x, Make.frame(Inside.singles(more, 1, 3, 2, 0, 0, 2)), 9, -20, AT + 9);
        CHECK.dueRead("7", x, Make.frame(Inside.singles(Inside.times(7, 1021), 1, 3, 2, 0, 0, 2)), 1023, -7, AT + 9);
    }

    /** The stream stands behind a number of two bytes, a share told and two symbols. */
    private static void placeIsTheStream() {
        CHECK.sentence("(17 to 20: PLACE is the stream)");
        Coder share = new Coder(6, 10, 10, 20, 23, -1);
        byte[] head = Make.join(ABC, Make.bytes(128, 1, 128 + 16 + 4), share.told(), Make.bytes(2, 45));
        int at = AT + head.length;
        int three = share.states(3)[0];
        int four = share.states(4)[0];
        CHECK.dueFault("17", Make.frame(head, Make.stream(three, 6, 0, 2, 0, 8)), 17, at);
        CHECK.dueFault("18", Make.frame(head, Make.stream(three, 6, 3, 2, 0, 9)), 18, at);
        CHECK.dueFault("19", Make.frame(head, Make.stream(four, 6, 0, 2, 0, 9)), 19, at);
        CHECK.dueFault("20", Make.frame(head, Make.stream(three, 6, 0, 2, 511, 9)), 20, at);
        CHECK.dueRead("7", new StateFrames(), Make.frame(head, Make.stream(three, 6, 0, 2, 0, 9)), 517, -7, at);
        byte[] all = Make.frame(head, Make.stream(three, 6, 0, 2, 0, 9));
        CHECK.dueRead("none of them", new StateFrames(), all, 518, 518, all.length);
    }
}
