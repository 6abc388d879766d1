/** Promise 7: what sequences stand for: lengths, distances, the LATEST ones, copies, and fault 18. */
public final class CopiesTest {
    private static final Check CHECK = new Check("CopiesTest");
    private static final int AT = Make.INSIDE;

    /** Where the stream of a frame made by abc() stands. */
    private static final int STREAM = AT + 11;

    private static final byte[] ABC = Make.text("abc");
    private static final byte[] NOTHING = new byte[0];

    private static final int[] LITERAL_FROM = {16, 18, 20, 22, 24, 28, 32, 40, 48, 64,
        128, 256, 512, 1024, 2048, 4096, 8192, 16384, 32768, 65536};
    private static final int[] LITERAL_BITS = {1, 1, 1, 1, 2, 2, 3, 3, 4, 6, 7, 8, 9, 10, 11, 12, 13, 14, 15, 16};
    private static final int[] MATCH_FROM = {35, 37, 39, 41, 43, 47, 51, 59, 67, 83, 99,
        131, 259, 515, 1027, 2051, 4099, 8195, 16387, 32771, 65539};
    private static final int[] MATCH_BITS = {1, 1, 1, 1, 2, 2, 3, 3, 4, 4, 5, 7, 8, 9, 10, 11, 12, 13, 14, 15, 16};

    public static void main(String[] args) {
        shortLiteralLengths();
        longLiteralLengths();
        longestLiteralLengths();
        shortMatchLengths();
        longMatchLengths();
        longestMatchLengths();
        distancesByBits();
        vAboveThree();
        latestAtFirst();
        becomesTheFirst();
        theFirst();
        theSecond();
        theThird();
        theFirstLessOne();
        noLiterals();
        latestFromBlockToBlock();
        latestFromFrameToFrame();
        oneByOne();
        endOfTheDictionary();
        dictionaryThenContent();
        tooFarIsNone();
        tooFarBehindContent();
        tooFarLiteralsIncluded();
        tooFarOtherFrames();
        tooFarBehindDictionary();
        tooFarAboveTheWindow();
        tooFarWindowReached();
        windowOverDictionary();
        tooFarGreatest();
        CHECK.end();
    }

    /** A byte, then LITERALS of the same and a copy of three: by symbol s and additional bits. */
    private static void dueLiteralLength(int s, int length, int extra, int width) {
        byte[] block = Inside.singles(Inside.times(5, length), 1, s, 2, 0, 0, 2, extra, width);
        byte[] all = Make.join(Make.WIDE, Make.raw(false, Make.bytes(5)), Make.packed(true, block));
        String what = "literal length " + length + " by " + s;
        if (length + 4 <= 32768) {
            CHECK.dueContent(what, all, Make.times(5, length + 4));
        } else {
            CHECK.dueFault(what, all, length + 3 > 131072 ? 20 : 7, AT + 1 + 3 + 4 + 5);
        }
        if (length > 0) {
            block = Inside.singles(Inside.times(5, length - 1), 1, s, 2, 0, 0, 2, extra, width);
            CHECK.dueFault(what + ", one lacks", Make.join(Make.WIDE, Make.raw(false, Make.bytes(5)), Make.packed(true, block)),
                19, AT + 1 + 3 + 4 + 5);
        }
    }

    private static void shortLiteralLengths() {
        CHECK.sentence("A literal length is its symbol up to 15");
        for (int s = 0; s <= 15; s++) {
            dueLiteralLength(s, s, 0, 0);
        }
    }

    private static void longLiteralLengths() {
        CHECK.sentence("for 16 .. 35: 16, 18, .. then 128, and each next one twice as much, and 1, .. 16 additional bits");
        for (int k = 0; k < 20; k++) {
            int most = (1 << LITERAL_BITS[k]) - 1;
            dueLiteralLength(16 + k, LITERAL_FROM[k], 0, LITERAL_BITS[k]);
            dueLiteralLength(16 + k, LITERAL_FROM[k] + 1, 1, LITERAL_BITS[k]);
            dueLiteralLength(16 + k, LITERAL_FROM[k] + most, most, LITERAL_BITS[k]);
        }
    }

    private static void longestLiteralLengths() {
        CHECK.sentence("A literal length .. 65536 .. and .. 16 additional bits (20: more than MOST OF A BLOCK)");
        CHECK.dueFault("131071 of 131072", Make.join(Make.WIDE,
            Make.packed(true, Inside.singles(Inside.times(5, 131072), 1, 35, 2, 0, 0, 2, 65535, 16))), 20, AT + 9);
        CHECK.dueFault("131069 and 3", Make.join(Make.WIDE,
            Make.packed(true, Inside.singles(Inside.times(5, 131069), 1, 35, 2, 0, 0, 2, 65533, 16))), 7, AT + 9);
    }

    private static void dueMatchLength(int s, int length, int extra, int width) {
        byte[] block = Inside.singles(Make.literals(Make.bytes(5)), 1, 1, 2, s, 0, 2, extra, width);
        byte[] all = Make.join(Make.WIDE, Make.packed(true, block));
        String what = "match length " + length + " by " + s;
        if (length + 1 <= 32768) {
            CHECK.dueContent(what, all, Make.times(5, length + 1));
        } else {
            CHECK.dueFault(what, all, length + 1 > 131072 ? 20 : 7, AT + 4 + 5);
        }
    }

    private static void shortMatchLengths() {
        CHECK.sentence("A match length is its symbol + 3 up to 31");
        for (int s = 0; s <= 31; s++) {
            dueMatchLength(s, s + 3, 0, 0);
        }
    }

    private static void longMatchLengths() {
        CHECK.sentence("for 32 .. 52: 35, 37, .. then 131, 259, .. 65539 (2^k + 3) and 1, .. 16 additional bits");
        for (int k = 0; k < 21; k++) {
            int most = (1 << MATCH_BITS[k]) - 1;
            dueMatchLength(32 + k, MATCH_FROM[k], 0, MATCH_BITS[k]);
            dueMatchLength(32 + k, MATCH_FROM[k] + 1, 1, MATCH_BITS[k]);
            dueMatchLength(32 + k, MATCH_FROM[k] + most, most, MATCH_BITS[k]);
        }
    }

    /** The longest ones can only be told apart by how much a block may come to. */
    private static void longestMatchLengths() {
        CHECK.sentence("A match length .. (32771 and 65539)");
        byte[] one = Make.literals(Make.bytes(5));
        byte[] five = Make.join(Make.MARK, Make.bytes(0, 8 * 5 + 1));
        byte[] seven = Make.join(Make.MARK, Make.bytes(0, 8 * 6 + 1));
        for (int over = 0; over < 2; over++) {
            int fault = over == 0 ? 7 : 20;
            int more = 32768 + 4096 - 1 + over - 32771;
            CHECK.dueFault("32771 and more, over by " + over,
                Make.join(five, Make.packed(true, Inside.singles(one, 1, 1, 2, 51, 0, 2, more, 15))), fault, AT + 9);
            more = 65536 + 8192 - 1 + over - 65539;
            CHECK.dueFault("65539 and more, over by " + over,
                Make.join(seven, Make.packed(true, Inside.singles(one, 1, 1, 2, 52, 0, 2, more, 16))), fault, AT + 9);
        }
    }

    /** Some bytes, then two LITERALS and a copy of 20, which must be as far back as that. */
    private static void dueDistance(byte[] before, int s, int bits, int distance) {
        byte[] literals = Make.text("abcdef");
        byte[] block = Inside.singles(Make.literals(literals), 1, 2, s, 17, bits, s);
        byte[] all = Make.join(Make.WIDE, Make.raw(false, before), Make.packed(true, block));
        CHECK.dueContent("distance " + distance, all, Inside.model(before, literals, new int[] {2, distance, 20}));
    }

    private static void distancesByBits() {
        CHECK.sentence("A distance's symbol s has s additional bits, v = 2^s + these.");
        byte[] before = Inside.differing(9000);
        for (int s = 2; s <= 13; s++) {
            for (int bits : new int[] {0, 1, (1 << s) - 1}) {
                int distance = (1 << s) + bits - 3;
                if (distance <= 9002) {
                    dueDistance(before, s, bits, distance);
                }
            }
        }
        dueDistance(before, 13, 9002 + 3 - 8192, 9002);
    }

    private static void vAboveThree() {
        CHECK.sentence("if v is above 3, the distance is v - 3");
        byte[] before = Inside.differing(20);
        dueDistance(before, 2, 0, 1);
        dueDistance(before, 2, 1, 2);
        dueDistance(before, 2, 3, 4);
        // 3 is not above 3: it says the third, which is 8 at first.
        dueDistance(before, 1, 1, 8);
        CHECK.dueContent("v 4 without LITERALS is 1, too", Make.join(Make.HEAD, Make.raw(false, ABC),
            Make.packed(true, Inside.singles(Make.bytes(0), 1, 0, 2, 0, 0, 2))), Make.text("abcccc"));
    }

    /** What is said {literal length, v, match length}, and {literal length, distance, match length} that is meant. */
    private static void dueLatest(String what, byte[] before, int[][] said, int[][] meant) {
        byte[] literals = Make.text("klmnopqrstuvwxyz");
        byte[] stream = Coder.sequences(Inside.LITERAL, Inside.DISTANCE, Inside.MATCH, said);
        byte[] all = Make.join(Make.HEAD, Make.raw(false, before),
            Make.packed(true, Make.literals(literals), Make.bytes(said.length, 0), stream));
        CHECK.dueContent(what, all, Inside.model(before, literals, meant));
    }

    /** Sequences of {literal length, v, distance}; each copies as many bytes as tell its distance. */
    private static void dueLatest(String what, int[]... all) {
        int[][] said = new int[all.length][];
        int[][] meant = new int[all.length][];
        for (int k = 0; k < all.length; k++) {
            said[k] = new int[] {all[k][0], all[k][1], 12 + k};
            meant[k] = new int[] {all[k][0], all[k][2], 12 + k};
        }
        dueLatest(what, Inside.differing(100), said, meant);
    }

    private static int[] one(int literals, int v, int distance) {
        return new int[] {literals, v, distance};
    }

    private static void latestAtFirst() {
        CHECK.sentence("There are three LATEST distances (1, 4, 8 at first in a frame)");
        dueLatest("the first", one(1, 1, 1));
        dueLatest("the second", one(1, 2, 4));
        dueLatest("the third", one(1, 3, 8));
        dueLatest("the second, without LITERALS", one(0, 1, 4));
        dueLatest("the third, without LITERALS", one(0, 2, 8));
    }

    private static void becomesTheFirst() {
        CHECK.sentence("the distance is v - 3, and becomes the first, the others going one behind");
        dueLatest("once: the first", one(1, 23, 20), one(1, 1, 20));
        dueLatest("once: the second", one(1, 23, 20), one(1, 2, 1));
        dueLatest("once: the third", one(1, 23, 20), one(1, 3, 4));
        dueLatest("twice: the third", one(1, 23, 20), one(1, 33, 30), one(1, 3, 1));
        dueLatest("thrice: the third", one(1, 23, 20), one(1, 33, 30), one(1, 43, 40), one(1, 3, 20));
        dueLatest("of the same: the third", one(1, 23, 20), one(1, 23, 20), one(1, 3, 1));
        dueLatest("without LITERALS", one(0, 23, 20), one(1, 2, 1));
    }

    private static void theFirst() {
        CHECK.sentence("1 the first (and nothing changes)");
        dueLatest("the first again", one(1, 1, 1), one(1, 1, 1));
        dueLatest("the second stays", one(1, 1, 1), one(1, 2, 4));
        dueLatest("the third stays", one(1, 1, 1), one(1, 3, 8));
    }

    private static void theSecond() {
        CHECK.sentence("2 the second, which changes with the first");
        dueLatest("it is the first", one(1, 2, 4), one(1, 1, 4));
        dueLatest("the first is the second", one(1, 2, 4), one(1, 2, 1));
        dueLatest("the third stays", one(1, 2, 4), one(1, 3, 8));
        dueLatest("twice", one(1, 2, 4), one(1, 2, 1), one(1, 1, 1), one(1, 2, 4));
    }

    private static void theThird() {
        CHECK.sentence("3 the third .. : which becomes the first, the others (of 3: the first two) going one behind");
        dueLatest("it is the first", one(1, 3, 8), one(1, 1, 8));
        dueLatest("the first is the second", one(1, 3, 8), one(1, 2, 1));
        dueLatest("the second is the third", one(1, 3, 8), one(1, 3, 4));
        dueLatest("thrice", one(1, 3, 8), one(1, 3, 4), one(1, 3, 1), one(1, 3, 8));
    }

    private static void theFirstLessOne() {
        CHECK.sentence("4 the first less 1: which becomes the first, the others going one behind");
        dueLatest("it is the first", one(1, 23, 20), one(0, 3, 19), one(1, 1, 19));
        dueLatest("the first is the second", one(1, 23, 20), one(0, 3, 19), one(1, 2, 20));
        dueLatest("the second is the third", one(1, 23, 20), one(0, 3, 19), one(1, 3, 1));
        dueLatest("twice", one(1, 23, 20), one(0, 3, 19), one(0, 3, 18), one(1, 3, 20));
        dueLatest("down to 1", one(1, 5, 2), one(0, 3, 1), one(1, 1, 1));
    }

    private static void noLiterals() {
        CHECK.sentence("with w = v, but v + 1 if the literal length is 0");
        dueLatest("1 is 2", one(0, 1, 4), one(1, 2, 1));
        dueLatest("2 is 3", one(0, 2, 8), one(1, 2, 1), one(1, 3, 4));
        dueLatest("3 is 4", one(1, 2, 4), one(0, 3, 3));
        dueLatest("1 with one LITERAL is 1", one(1, 1, 1), one(1, 2, 4));
        dueLatest("1 with one LITERAL, then none", one(1, 23, 20), one(1, 1, 20), one(0, 1, 1));
        dueLatest("all", one(8, 3, 8), one(0, 1, 1), one(1, 1, 1), one(0, 2, 4), one(0, 3, 3), one(1, 2, 4), one(0, 10, 7),
            one(0, 2, 3), one(1, 3, 4), one(0, 3, 3));
    }

    private static void latestFromBlockToBlock() {
        CHECK.sentence("three LATEST distances (1, 4, 8 at first in a frame) (and on, from block to block)");
        byte[] letters = Make.text("abcdefghij");
        byte[] block = Make.packed(false, Inside.singles(Make.literals(letters), 1, 9, 3, 0, 0, 3));
        byte[] next = Make.packed(true, Inside.singles(Make.literals(Make.text("z")), 1, 1, 0, 0));
        byte[] first = Inside.model(NOTHING, letters, new int[] {9, 5, 3});
        byte[] due = Inside.model(first, Make.text("z"), new int[] {1, 5, 3});
        CHECK.dueContent("at once", Make.join(Make.HEAD, block, next), due);
        CHECK.dueContent("behind blocks without sequences", Make.join(Make.HEAD, block, Make.run(false, '-', 0),
            Make.raw(false, NOTHING), Make.packed(false, Make.bytes(0, 0)), next), due);
    }

    private static void latestFromFrameToFrame() {
        CHECK.sentence("three LATEST distances (1, 4, 8 at first in a frame) (each frame)");
        byte[] letters = Make.text("abcdefghij");
        byte[] frame = Make.frame(Inside.singles(Make.literals(letters), 1, 9, 3, 0, 0, 3));
        byte[] first = Inside.model(NOTHING, letters, new int[] {9, 5, 3});
        for (int v = 1; v <= 3; v++) {
            int s = v == 1 ? 0 : 1;
            int distance = v == 1 ? 1 : v == 2 ? 4 : 8;
            byte[] next = Make.frame(Inside.singles(Make.literals(letters), 1, 9, s, 0, v - (1 << s), s));
            CHECK.dueContent("v " + v, Make.join(frame, next),
                Make.join(first, Inside.model(NOTHING, letters, new int[] {9, distance, 3})));
        }
    }

    private static void oneByOne() {
        CHECK.sentence("match length bytes copied from the distance back, one by one");
        CHECK.dueContent("1 back", Inside.abc(1, 3, 2, 4, 0, 2), Make.text("abcccccccc"));
        CHECK.dueContent("2 back", Inside.abc(1, 3, 2, 2, 1, 2), Make.text("abcbcbcb"));
        CHECK.dueContent("as far as the copy is long", Inside.abc(1, 3, 2, 0, 2, 2), Make.text("abcabc"));
        CHECK.dueContent("one fewer than the copy is long", Inside.abc(1, 3, 2, 1, 2, 2), Make.text("abcabca"));
        CHECK.dueContent("far longer", Inside.abc(1, 3, 2, 9, 2, 2), Make.text("abcabcabcabcabc"));
        CHECK.dueContent("32768 at most", Make.join(Make.WIDE, Make.packed(true,
            Inside.singles(Make.literals(Make.bytes(5)), 1, 1, 2, 50, 0, 2, 32767 - 16387, 14))), Make.times(5, 32768));
    }

    private static StateFrames learned(byte[] words) {
        StateFrames x = new StateFrames();
        Check.put(x, words);
        CHECK.due("learn", x.learn(), words.length);
        return x;
    }

    /** A frame of abc and a copy from a distance. */
    private static byte[] abcFrom(int distance, int length) {
        int s = 31 - Integer.numberOfLeadingZeros(distance + 3);
        return Inside.abc(1, 3, s, length - 3, distance + 3 - (1 << s), s);
    }

    private static void dueOfDictionary(StateFrames x, byte[] words, int distance, int length) {
        byte[] whole = Inside.model(words, ABC, new int[] {3, distance, length});
        CHECK.dueContent(length + " from " + distance, x, abcFrom(distance, length), Make.behind(whole, words.length));
    }

    private static void endOfTheDictionary() {
        CHECK.sentence("in the content, or, behind its beginning, the end of the DICTIONARY's content");
        byte[] words = Inside.differing(100);
        StateFrames x = learned(words);
        dueOfDictionary(x, words, 6, 3);
        dueOfDictionary(x, words, 20, 5);
        dueOfDictionary(x, words, 20, 17);
        dueOfDictionary(x, words, 103, 3);
        dueOfDictionary(x, words, 103, 34);
        byte[] first = Make.frame(Inside.singles(Make.bytes(0), 1, 0, 2, 0, 0, 2));
        CHECK.dueContent("before any content", x, first, Make.times(words[99], 3));
        byte[] most = Inside.differing(12000);
        StateFrames y = learned(most);
        dueOfDictionary(y, most, 12003, 20);
        dueOfDictionary(y, most, 4, 3);
    }

    private static void dictionaryThenContent() {
        CHECK.sentence("copied .. one by one, in the content, or, behind its beginning (from there into the content)");
        byte[] words = Inside.differing(100);
        StateFrames x = learned(words);
        dueOfDictionary(x, words, 3, 20);
        dueOfDictionary(x, words, 4, 20);
        dueOfDictionary(x, words, 5, 3);
        dueOfDictionary(x, words, 10, 8);
        dueOfDictionary(x, words, 10, 34);
        byte[] small = Make.text("x");
        StateFrames y = learned(small);
        dueOfDictionary(y, small, 4, 34);
        CHECK.dueContent("a second frame has the DICTIONARY behind its beginning, too", y,
            Make.join(abcFrom(3, 4), abcFrom(4, 4)), Make.text("abcabcaabcxabc"));
    }

    private static void tooFarIsNone() {
        CHECK.sentence("A distance is TOO FAR if it is 0");
        byte[] nine = Make.raw(false, Inside.differing(9));
        byte[] less = Make.packed(true, Inside.singles(Make.bytes(0), 1, 0, 1, 0, 1, 1));
        CHECK.dueFault("the first less 1", Make.join(Make.HEAD, nine, less), 18, AT + 9 + 3 + 6);
        StateFrames x = learned(Inside.differing(100));
        CHECK.dueRead("with a DICTIONARY", x, Make.join(Make.HEAD, nine, less), 99, -18, AT + 9 + 3 + 6);
    }

    private static void dueTooFar(String what, StateFrames x, byte[] bytes, int place) {
        CHECK.dueRead(what, x, bytes, 32768, -18, place);
        CHECK.due(what + ": done", x.about(3), 0);
    }

    private static void tooFarBehindContent() {
        CHECK.sentence("or more than the bytes of content so far .. and of DICTIONARY's content together (there being none)");
        CHECK.dueContent("just so many", abcFrom(3, 3), Make.text("abcabc"));
        dueTooFar("one more", new StateFrames(), abcFrom(4, 3), STREAM);
        dueTooFar("far more", new StateFrames(), abcFrom(100, 3), STREAM);
        dueTooFar("the second, 4", new StateFrames(), Inside.abc(1, 3, 1, 0, 0, 1), STREAM);
        dueTooFar("the third, 8", new StateFrames(), Inside.abc(1, 3, 1, 0, 1, 1), STREAM);
        dueTooFar("the first, of no content", new StateFrames(), Make.frame(Inside.singles(Make.bytes(0), 1, 0, 2, 0, 0, 2)), AT + 6);
        byte[] eight = Make.literals(Make.text("abcdefgh"));
        CHECK.dueContent("the third, 8, of 8", Make.frame(Inside.singles(eight, 1, 8, 1, 0, 1, 1)), Make.text("abcdefghabc"));
    }

    private static void tooFarLiteralsIncluded() {
        CHECK.sentence("the bytes of content so far (the LITERALS before included)");
        byte[] five = Make.literals(Make.text("abcde"));
        CHECK.dueContent("its own", Make.frame(Inside.singles(five, 1, 2, 2, 0, 1, 2)), Make.text("ababacde"));
        dueTooFar("not those behind", new StateFrames(), Make.frame(Inside.singles(five, 1, 2, 2, 0, 2, 2)), AT + 8 + 5);
        byte[] two = Inside.singles(five, 2, 1, 3, 0, 0, 3, 0, 3);
        dueTooFar("not what a later one will have", new StateFrames(), Make.frame(two), AT + 8 + 5);
        byte[] block = Make.join(Make.HEAD, Make.raw(false, ABC), Make.packed(true, Inside.singles(five, 1, 2, 3, 0, 0, 3)));
        CHECK.dueContent("and those of the block before", block, Inside.model(ABC, Make.text("abcde"), new int[] {2, 5, 3}));
        block = Make.join(Make.HEAD, Make.raw(false, ABC), Make.packed(true, Inside.singles(five, 1, 2, 3, 0, 1, 3)));
        dueTooFar("and one more", new StateFrames(), block, AT + 3 + 3 + 8 + 5);
    }

    private static void tooFarOtherFrames() {
        CHECK.sentence("the bytes of content so far (not of other frames)");
        byte[] frame = Make.join(Make.HEAD, Make.raw(true, Inside.differing(50)));
        CHECK.dueFault("one more than its own", Make.join(frame, abcFrom(4, 3)), 18, frame.length + STREAM);
        CHECK.dueContent("its own", Make.join(frame, abcFrom(3, 3)), Make.join(Inside.differing(50), Make.text("abcabc")));
    }

    private static void tooFarBehindDictionary() {
        CHECK.sentence("or more than the bytes of content so far .. and of DICTIONARY's content together");
        byte[] words = Inside.differing(100);
        StateFrames x = learned(words);
        dueOfDictionary(x, words, 103, 20);
        dueTooFar("one more", x, abcFrom(104, 20), STREAM);
        dueTooFar("far more", x, abcFrom(1000, 20), STREAM);
        byte[] first = Make.frame(Inside.singles(Make.bytes(0), 1, 0, 6, 0, 103 - 64, 6));
        CHECK.dueContent("before any content", x, first, Make.first(words, 3));
        dueTooFar("before any content, one more", x, Make.frame(Inside.singles(Make.bytes(0), 1, 0, 6, 0, 104 - 64, 6)), AT + 6);
        x.forget();
        dueTooFar("forgotten", x, abcFrom(4, 3), STREAM);
        StateFrames none = learned(NOTHING);
        dueTooFar("of an empty DICTIONARY", none, abcFrom(4, 3), STREAM);
    }

    /** A WINDOW of 1024, some bytes before the block, three LITERALS and a copy from 1021 back or more. */
    private static byte[] atTheWindow(int before, int distance) {
        byte[] block = Inside.singles(Inside.ABC, 1, 3, 10, 0, distance + 3 - 1024, 10);
        return Make.join(Make.HEAD, Make.raw(false, Inside.differing(before)), Make.packed(true, block));
    }

    private static void dueAtTheWindow(StateFrames x, int before, int distance, boolean tooFar) {
        byte[] all = atTheWindow(before, distance);
        String what = "behind " + before + " and three, from " + distance;
        if (tooFar) {
            CHECK.dueRead(what, x, all, 32768, -18, before + 3 + STREAM);
        } else {
            CHECK.dueRead(what, x, all, 32768, before + 6, all.length);
        }
    }

    private static void tooFarAboveTheWindow() {
        CHECK.sentence("or above the WINDOW, and not above the bytes of content so far");
        StateFrames x = new StateFrames();
        StateFrames y = learned(Inside.differing(100));
        for (StateFrames one : new StateFrames[] {x, y}) {
            dueAtTheWindow(one, 1024, 1023, false);
            dueAtTheWindow(one, 1024, 1024, false);
            dueAtTheWindow(one, 1024, 1025, true);
            dueAtTheWindow(one, 1024, 1027, true);
            dueAtTheWindow(one, 1022, 1024, false);
            dueAtTheWindow(one, 1022, 1025, true);
        }
        byte[] block = Inside.singles(Inside.ABC, 1, 3, 10, 0, 1025 + 3 - 1024, 10);
        byte[] wider = Make.join(Make.MARK, Make.bytes(0, 1), Make.raw(false, Inside.differing(1024)), Make.packed(true, block));
        CHECK.dueContent("a WINDOW of 1152", x, wider, Inside.model(Inside.differing(1024), ABC, new int[] {3, 1025, 3}));
    }

    private static void tooFarWindowReached() {
        CHECK.sentence("or above these when they are more than the WINDOW");
        StateFrames x = learned(Inside.differing(100));
        dueAtTheWindow(x, 1020, 1024, false);
        dueAtTheWindow(x, 1021, 1025, false);
        dueAtTheWindow(x, 1021, 1124, false);
        dueAtTheWindow(x, 1021, 1125, true);
        dueAtTheWindow(x, 1022, 1026, true);
        dueAtTheWindow(x, 1022, 1125, true);
        dueAtTheWindow(x, 1024, 1028, true);
        byte[] due = Inside.model(Make.join(Inside.differing(100), Inside.differing(1021)), ABC, new int[] {3, 1124, 3});
        CHECK.dueContent("all of it, when they are just the WINDOW", x, atTheWindow(1021, 1124), Make.behind(due, 100));
    }

    private static void windowOverDictionary() {
        CHECK.sentence("above the WINDOW, and not above the bytes of content (a DICTIONARY's may be)");
        byte[] words = Inside.differing(100);
        StateFrames x = learned(words);
        byte[] single = Make.join(Make.MARK, Make.bytes(32, 30),
            Make.packed(true, Inside.singles(Inside.ABC, 1, 3, 6, 24, 103 + 3 - 64, 6)));
        byte[] whole = Inside.model(words, ABC, new int[] {3, 103, 27});
        CHECK.dueContent("103 of a WINDOW of 30", x, single, Make.behind(whole, 100));
    }

    private static void tooFarGreatest() {
        CHECK.sentence("A distance is TOO FAR (the greatest that can be said)");
        StateFrames x = learned(Inside.differing(12000));
        for (int s = 14; s <= 31; s++) {
            dueTooFar("2^" + s, x, Inside.abc(1, 3, s, 0, 0, s), STREAM);
            dueTooFar("2^" + (s + 1) + " less 1", x, Inside.abc(1, 3, s, 0, (1L << s) - 1, s), STREAM);
        }
        byte[] widest = Make.join(Make.MARK, Make.bytes(0, 255), Make.packed(true, Inside.singles(Inside.ABC, 1, 3, 31, 0, 0, 31)));
        dueTooFar("of the greatest WINDOW", x, widest, STREAM);
        byte[] single = Make.join(Make.MARK, Make.bytes(224), Make.number(1L << 63, 8),
            Make.packed(true, Inside.singles(Inside.ABC, 1, 3, 31, 0, 0, 31)));
        dueTooFar("of a SIZE of 2^63", x, single, STREAM + 7);
    }
}
