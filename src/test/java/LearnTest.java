/** Promises 5 and 6: learn and forget, and what frames begin with then. */
public final class LearnTest {
    private static final Check CHECK = new Check("LearnTest");
    private static final byte[] MARK = Make.bytes(55, 164, 48, 236);
    private static final byte[] ID = Make.number(77, 4);
    private static final byte[] CODES = Inside.THREE;
    private static final Coder LITERAL = new Coder(9, 12, 200, 150, 150);
    private static final Coder DISTANCE = new Coder(8, 100, 100, 30, 26);
    private static final Coder MATCH = new Coder(5, 30, -1, -1);
    private static final byte[] SHARES = Make.join(DISTANCE.told(), MATCH.told(), LITERAL.told());
    private static final byte[] WORDS = Make.text("abcdefghijklmnopqrst");
    private static final byte[] NOTHING = new byte[0];

    /** Where the three shares and the three distances of dictionary() stand. */
    private static final int SHARES_AT = 4 + 4 + CODES.length;
    private static final int DISTANCES_AT = SHARES_AT + SHARES.length;

    public static void main(String[] args) {
        becomesAndIsEmpty();
        contentOfNothing();
        contentOfFullIn();
        bytesThatBegin();
        allIsContent();
        toldInFull();
        idOfFourBytes();
        descriptionOfIt();
        orderOfShares();
        threeDistances();
        endsWithinWhatIsTold();
        endsWithinDistances();
        descriptionIsWrong();
        shareIsWrong();
        distanceIsNone();
        distanceAboveContent();
        theFirstThatComes();
        endsWithinDescription();
        endsWithinShare();
        bothStayByEnd();
        bothStayByDescription();
        bothStayByShare();
        bothStayByDistance();
        framesBeginWithCodes();
        framesBeginWithTables();
        framesBeginWithLatest();
        eachFrameBeginsWithIt();
        noCodesOrTablesElse();
        idsOfFrames();
        learnedInTheOthersPlace();
        forgotten();
        nothingToForget();
        CHECK.end();
    }

    private static byte[] dictionary(int first, int second, int third, byte[] content) {
        return Make.join(MARK, ID, CODES, SHARES,
            Make.number(first, 4), Make.number(second, 4), Make.number(third, 4), content);
    }

    private static void dueLearn(String what, byte[] bytes, int answer) {
        dueLearn(what, new StateFrames(), bytes, answer);
    }

    private static void dueLearn(String what, StateFrames x, byte[] bytes, int answer) {
        x.clear();
        Check.put(x, bytes);
        CHECK.due("learn " + what, x.learn(), answer);
        CHECK.due("learn " + what + ": IN has bytes", x.again(1, 0), answer < 0 && bytes.length > 0);
    }

    private static void dueDictionary(String what, StateFrames x, int content, int id) {
        CHECK.due(what + ": content", x.about(6), content);
        CHECK.due(what + ": ID", x.about(7), id);
    }

    private static StateFrames learned(byte[] bytes, int content) {
        StateFrames x = new StateFrames();
        dueLearn("first", x, bytes, content);
        return x;
    }

    /** Literals 1, 2, 0, each table as it was, and said distances, the first, second and third. */
    private static byte[] useAll() {
        int[][] said = {{2, 1, 3}, {0, 1, 4}, {1, 3, 5}};
        return Make.frame(Make.coded(3, 0, 3, 1), Make.stream(0, 2, 1, 2, 1, 1), Make.bytes(3, Inside.REPEATED),
            Coder.sequences(LITERAL, DISTANCE, MATCH, said));
    }

    /**
     * What comes of it with the distances 5, 7, 6. The second sequence has no literals, so it says
     * the second: 7. The third says the third: 6.
     */
    private static byte[] useContent() {
        byte[] whole = Inside.model(WORDS, Make.bytes(1, 2, 0), new int[] {2, 5, 3}, new int[] {0, 7, 4}, new int[] {1, 6, 5});
        return Make.behind(whole, WORDS.length);
    }

    private static void becomesAndIsEmpty() {
        CHECK.sentence("IN becomes the DICTIONARY, and empty: how many bytes of content it has.");
        StateFrames x = new StateFrames();
        dueLearn("20 bytes", x, WORDS, 20);
        dueDictionary("20 bytes", x, 20, 0);
        CHECK.due("IN is empty: read", x.read(9), 0);
        CHECK.due("IN is empty: its end", x.about(0), 0);
        dueLearn("a told one", x, dictionary(1, 4, 8, WORDS), 20);
        dueDictionary("a told one", x, 20, 77);
        CHECK.due("IN is empty again: read", x.read(9), 0);
        byte[] back = Make.frame(Inside.singles(Make.bytes(0), 1, 0, 4, 17, 20 + 3 - 16, 4));
        CHECK.dueContent("its content is there", x, back, WORDS);
    }

    private static void contentOfNothing() {
        CHECK.sentence("IN (empty) becomes the DICTIONARY");
        StateFrames x = learned(WORDS, 20);
        dueLearn("nothing", x, NOTHING, 0);
        dueDictionary("nothing", x, 0, 0);
        byte[] back = Make.frame(Inside.singles(Make.bytes(0), 1, 0, 2, 0, 0, 2));
        CHECK.dueRead("it has no content", x, back, 9, -18, Make.INSIDE + 6);
    }

    private static void contentOfFullIn() {
        CHECK.sentence("IN (of 12,000) becomes the DICTIONARY");
        byte[] most = Inside.differing(12000);
        StateFrames x = learned(most, 12000);
        dueDictionary("12,000", x, 12000, 0);
        byte[] back = Make.frame(Inside.singles(Make.bytes(0), 1, 0, 13, 17, 12000 + 3 - 8192, 13));
        CHECK.dueContent("its first bytes", x, back, Make.first(most, 20));
        byte[] told = dictionary(1, 1, 1, NOTHING);
        byte[] content = Inside.differing(12000 - told.length);
        byte[] full = dictionary(1, 4, content.length, content);
        dueLearn("told in 12,000", x, full, content.length);
        dueDictionary("told in 12,000", x, content.length, 77);
    }

    private static void bytesThatBegin() {
        CHECK.sentence("If its bytes begin with 55, 164, 48, 236");
        byte[] right = dictionary(1, 4, 8, WORDS);
        dueLearn("right", right, 20);
        for (int k = 0; k < 4; k++) {
            for (int off : new int[] {-1, 1, 128}) {
                byte[] wrong = right.clone();
                wrong[k] += (byte) off;
                dueLearn("byte " + k + " off by " + off, wrong, right.length);
            }
        }
        for (int n = 1; n < 4; n++) {
            dueLearn(n + " of its bytes", Make.first(MARK, n), n);
        }
        dueLearn("all four, and no more", MARK, -1);
    }

    private static void allIsContent() {
        CHECK.sentence("Otherwise all is content, and the ID is 0.");
        StateFrames x = learned(dictionary(1, 4, 8, WORDS), 20);
        dueLearn("a byte", x, Make.bytes(55), 1);
        dueDictionary("a byte", x, 1, 0);
        byte[] back = Make.frame(Inside.singles(Make.bytes(0), 1, 0, 2, 0, 0, 2));
        CHECK.dueContent("a byte", x, back, Make.times(55, 3));
        byte[] off = Make.bytes(55, 164, 48, 237, 1, 2, 3, 4);
        dueLearn("bytes that are off", x, off, 8);
        dueDictionary("bytes that are off", x, 8, 0);
        byte[] all = Make.frame(Inside.singles(Make.bytes(0), 1, 0, 3, 5, 8 + 3 - 8, 3));
        CHECK.dueContent("bytes that are off", x, all, off);
        dueLearn("a frame's mark", x, Make.MARK, 4);
    }

    private static void toldInFull() {
        CHECK.sentence("there follow the ID in four bytes, a DESCRIPTION, three SHARES TOLD, .. three distances .., and the content");
        StateFrames x = learned(dictionary(5, 7, 6, WORDS), 20);
        dueDictionary("told", x, 20, 77);
        CHECK.dueContent("all of it is used", x, useAll(), useContent());
        dueLearn("one byte of content", x, dictionary(1, 1, 1, Make.bytes(7)), 1);
        dueDictionary("one byte of content", x, 1, 77);
    }

    private static void idOfFourBytes() {
        CHECK.sentence("the ID in four bytes");
        StateFrames x = new StateFrames();
        for (long id : new long[] {0, 1, 255, 256, 65535, 65536, 0x7FFFFFFF, 0x80000000L, 0xFF000001L, 0xFFFFFFFFL}) {
            byte[] bytes = dictionary(1, 1, 1, WORDS);
            System.arraycopy(Make.number(id, 4), 0, bytes, 4, 4);
            dueLearn("ID " + id, x, bytes, 20);
            dueDictionary("ID " + id, x, 20, (int) id);
            byte[] four = Make.join(Make.MARK, Make.bytes(3, 0), Make.number(id, 4), Make.run(true, 'q', 2));
            CHECK.dueContent("ID " + id + " in a frame", x, four, Make.text("qq"));
            if (id > 1) {
                byte[] other = Make.join(Make.MARK, Make.bytes(3, 0), Make.number(id - 1, 4), Make.run(true, 'q', 2));
                CHECK.dueRead("another than " + id, x, other, 9, -4, 6);
            }
        }
    }

    private static void descriptionOfIt() {
        CHECK.sentence("there follow .. a DESCRIPTION (plain or coded, of any length)");
        byte[] coded = new Coder(5, 16, 16).description(1, 1);
        byte[] many = Make.join(Make.bytes(255), new byte[63], Make.bytes(0x01));
        for (byte[] description : new byte[][] {Inside.BITS, Inside.THREE, coded, many}) {
            byte[] all = Make.join(MARK, ID, description, SHARES, Make.number(1, 4), Make.number(1, 4), Make.number(1, 4), WORDS);
            StateFrames x = learned(all, 20);
            byte[] frame = Make.frame(Make.coded(3, 0, 1, 1), Make.stream(1, 1), Inside.NONE);
            CHECK.dueRead("of " + description.length, x, frame, 9, 1, frame.length);
        }
    }

    /** A dictionary with these shares, told in the order of the document. */
    private static byte[] withShares(byte[] distances, byte[] matches, byte[] literals) {
        return Make.join(MARK, ID, CODES, distances, matches, literals,
            Make.number(1, 4), Make.number(1, 4), Make.number(1, 4), WORDS);
    }

    private static byte[] toldAt(int symbol) {
        int[] points = new int[symbol + 1];
        points[symbol] = 32;
        return new Coder(5, points).told();
    }

    private static byte[] ofOrder(int order) {
        return new Coder(order, 1 << order - 1, 1 << order - 1).told();
    }

    private static void orderOfShares() {
        CHECK.sentence("three SHARES TOLD, of distances, match lengths, literal lengths (LAST and greatest orders of each)");
        dueLearn("LAST of each", withShares(toldAt(31), toldAt(52), toldAt(35)), 20);
        dueLearn("distances above LAST", withShares(toldAt(32), toldAt(52), toldAt(35)), -3);
        dueLearn("match lengths above LAST", withShares(toldAt(31), toldAt(53), toldAt(35)), -3);
        dueLearn("literal lengths above LAST", withShares(toldAt(31), toldAt(52), toldAt(36)), -3);
        dueLearn("greatest orders", withShares(ofOrder(8), ofOrder(9), ofOrder(9)), 20);
        dueLearn("distances above it", withShares(ofOrder(9), ofOrder(9), ofOrder(9)), -3);
        dueLearn("match lengths above it", withShares(ofOrder(8), ofOrder(10), ofOrder(9)), -3);
        dueLearn("literal lengths above it", withShares(ofOrder(8), ofOrder(9), ofOrder(10)), -3);
    }

    private static void threeDistances() {
        CHECK.sentence("three distances of four bytes each");
        dueLearn("1", dictionary(1, 1, 1, WORDS), 20);
        dueLearn("as many as the content has", dictionary(20, 20, 20, WORDS), 20);
        byte[] content = Inside.differing(300);
        StateFrames x = learned(dictionary(258, 257, 256, content), 300);
        byte[] frame = Make.frame(Inside.singles(Make.bytes(8, 'z'), 1, 1, 1, 0, 1, 1));
        CHECK.dueContent("the third, of two bytes", x, frame,
            Make.behind(Inside.model(content, Make.text("z"), new int[] {1, 256, 3}), 300));
    }

    private static void endsWithinWhatIsTold() {
        CHECK.sentence("-1 its bytes end within what is told (the ID)");
        byte[] whole = dictionary(1, 4, 8, WORDS);
        for (int n = 4; n < 8; n++) {
            dueLearn("cut at " + n, Make.first(whole, n), -1);
        }
        dueLearn("cut behind the ID", Make.first(whole, 8), -2);
    }

    private static void endsWithinDistances() {
        CHECK.sentence("-1 its bytes end within what is told (the three distances)");
        byte[] whole = dictionary(1, 4, 8, WORDS);
        for (int n = DISTANCES_AT; n < DISTANCES_AT + 12; n++) {
            dueLearn("cut at " + n, Make.first(whole, n), -1);
        }
        dueLearn("cut behind them", Make.first(whole, DISTANCES_AT + 12), -4);
        dueLearn("cut one byte too early", Make.first(whole, DISTANCES_AT + 12 + 7), -4);
        dueLearn("cut behind the content that they need", Make.first(whole, DISTANCES_AT + 12 + 8), 8);
    }

    private static void descriptionIsWrong() {
        CHECK.sentence("-2 the DESCRIPTION is WRONG");
        byte[] rest = Make.times(1, 100);
        byte[][] wrongs = {{(byte) 129, 0}, {(byte) 129, 0x31}, {(byte) 129, 0x22}, {(byte) 128, (byte) 0xC0}, {0}, {120}, {2, 0, 0}};
        for (byte[] wrong : wrongs) {
            dueLearn((wrong[0] & 255) + " and so on", Make.join(MARK, ID, wrong, rest), -2);
        }
        dueLearn("order 7", Make.join(MARK, ID, new Coder(7, 64, 64).description(1, 1), rest), -2);
    }

    private static void shareIsWrong() {
        CHECK.sentence("-3 a share is");
        byte[] rest = Make.times(1, 60);
        byte[] before = Make.join(MARK, ID, CODES);
        byte[] wrong = Make.bytes(15);
        dueLearn("the first", Make.join(before, wrong, rest), -3);
        dueLearn("the second", Make.join(before, DISTANCE.told(), wrong, rest), -3);
        dueLearn("the third", Make.join(before, DISTANCE.told(), MATCH.told(), wrong, rest), -3);
        byte[] lacks = Make.join(Make.bytes(2), new byte[60]);
        dueLearn("something lacks", Make.join(before, DISTANCE.told(), MATCH.told(), lacks, rest), -3);
    }

    private static int[] withOne(int k, int distance) {
        int[] d = {1, 4, 8};
        d[k] = distance;
        return d;
    }

    private static void distanceIsNone() {
        CHECK.sentence("-4 one of the three distances is 0");
        for (int k = 0; k < 3; k++) {
            int[] d = withOne(k, 0);
            dueLearn("distance " + k, dictionary(d[0], d[1], d[2], WORDS), -4);
            d = withOne(k, 1);
            dueLearn("distance " + k + " is 1", dictionary(d[0], d[1], d[2], WORDS), 20);
        }
        dueLearn("all, and no content", dictionary(0, 0, 0, NOTHING), -4);
    }

    private static void distanceAboveContent() {
        CHECK.sentence("-4 one of the three distances is .. above the bytes of content");
        for (int k = 0; k < 3; k++) {
            for (int distance : new int[] {21, 256 + 1, 65536 + 1, (1 << 24) + 1, Integer.MIN_VALUE + 1, -1}) {
                int[] d = withOne(k, distance);
                dueLearn("distance " + k + " is " + distance, dictionary(d[0], d[1], d[2], WORDS), -4);
            }
            int[] d = withOne(k, 20);
            dueLearn("distance " + k + " is 20", dictionary(d[0], d[1], d[2], WORDS), 20);
        }
        dueLearn("1 of no content", dictionary(1, 1, 1, NOTHING), -4);
    }

    private static void theFirstThatComes() {
        CHECK.sentence("(the first that comes)");
        byte[] noWeights = Make.bytes(129, 0);
        byte[] noShare = Make.bytes(15);
        byte[] none = new byte[12];
        dueLearn("-2 before -3", Make.join(MARK, ID, noWeights, noShare, Make.times(1, 60)), -2);
        dueLearn("-2 before an end", Make.join(MARK, ID, noWeights), -2);
        dueLearn("-3 before -4", Make.join(MARK, ID, CODES, DISTANCE.told(), MATCH.told(), noShare, none), -3);
        dueLearn("-3 before an end", Make.join(MARK, ID, CODES, noShare), -3);
        dueLearn("-4 behind all shares", Make.join(MARK, ID, CODES, SHARES, none, WORDS), -4);
    }

    private static void endsWithinDescription() {
        CHECK.sentence("an end within a description .. is (its) being WRONG");
        byte[] coded = new Coder(5, 16, 16).description(1, 1);
        for (byte[] description : new byte[][] {CODES, coded}) {
            for (int n = 0; n < description.length; n++) {
                dueLearn(n + " bytes of " + description.length, Make.join(MARK, ID, Make.first(description, n)), -2);
            }
            dueLearn("all of " + description.length, Make.join(MARK, ID, description), -3);
        }
    }

    private static void endsWithinShare() {
        CHECK.sentence("an end within a .. share is their being WRONG");
        byte[] whole = dictionary(1, 4, 8, WORDS);
        for (int n = SHARES_AT; n < DISTANCES_AT; n++) {
            dueLearn("cut at " + n, Make.first(whole, n), -3);
        }
        dueLearn("cut behind them", Make.first(whole, DISTANCES_AT), -1);
    }

    /** A DICTIONARY that is in use stays when another one cannot be learned, and so does IN. */
    private static void dueBothStay(String what, byte[] bad, int answer) {
        StateFrames x = learned(dictionary(5, 7, 6, WORDS), 20);
        CHECK.dueContent(what + ": use", x, useAll(), useContent());
        dueLearn(what, x, bad, answer);
        CHECK.due(what + ": IN stays", x.learn(), answer);
        CHECK.due(what + ": all of IN", x.again(bad.length, 0), true);
        CHECK.due(what + ": no more of IN", x.again(bad.length + 1, 0), false);
        dueDictionary(what, x, 20, 77);
        CHECK.dueOut(what + ": OUT stays", x, useContent());
        CHECK.dueContent(what + ": use again", x, useAll(), useContent());
        dueLearn(what + " again", x, bad, answer);
        CHECK.dueContent(what + ": use once more", x, useAll(), useContent());
        StateFrames y = new StateFrames();
        dueLearn(what + ", there being none", y, bad, answer);
        dueDictionary(what + ", there being none", y, 0, 0);
        CHECK.dueRead(what + ", there being none: use", y, useAll(), 99, -13, Make.INSIDE);
    }

    private static void bothStayByEnd() {
        CHECK.sentence("Otherwise both stay: -1");
        dueBothStay("the ID ends", Make.join(MARK, Make.bytes(1, 2, 3)), -1);
        Coder other = new Coder(5, 31, -1);
        dueBothStay("the distances end", Make.join(MARK, Make.number(5, 4), Inside.BITS,
            other.told(), other.told(), other.told(), new byte[11]), -1);
    }

    private static void bothStayByDescription() {
        CHECK.sentence("Otherwise both stay: -2");
        dueBothStay("weights of 0", Make.join(MARK, Make.number(5, 4), Make.bytes(129, 0)), -2);
        dueBothStay("one weight of 1", Make.join(MARK, Make.number(5, 4), Make.bytes(129, 0x22), Make.times(1, 40)), -2);
    }

    private static void bothStayByShare() {
        CHECK.sentence("Otherwise both stay: -3");
        byte[] other = new Coder(5, 31, -1).told();
        byte[] before = Make.join(MARK, Make.number(5, 4), Inside.BITS);
        dueBothStay("the first", Make.join(before, Make.bytes(15)), -3);
        dueBothStay("the third", Make.join(before, other, other, Make.bytes(15)), -3);
    }

    private static void bothStayByDistance() {
        CHECK.sentence("Otherwise both stay: -4");
        byte[] other = new Coder(5, 31, -1).told();
        byte[] before = Make.join(MARK, Make.number(5, 4), Inside.BITS, other, other, other);
        dueBothStay("the third is 0", Make.join(before, Make.number(1, 4), Make.number(1, 4), Make.number(0, 4), WORDS), -4);
        dueBothStay("the third is 21", Make.join(before, Make.number(1, 4), Make.number(1, 4), Make.number(21, 4), WORDS), -4);
    }

    private static void framesBeginWithCodes() {
        CHECK.sentence("frames begin with these CODES");
        byte[] again = Make.frame(Make.coded(3, 0, 3, 1), Make.stream(0, 2, 1, 2, 1, 1), Inside.NONE);
        CHECK.dueContent("k 3", learned(dictionary(1, 1, 1, WORDS), 20), again, Make.bytes(1, 2, 0));
        byte[] four = Make.frame(Make.coded(3, 1, 4, 10), Make.bytes(1, 0, 1, 0, 1, 0, 3, 3, 3, 3), Inside.NONE);
        CHECK.dueContent("k 3 in four", learned(dictionary(1, 1, 1, WORDS), 20), four, new byte[4]);
    }

    private static void framesBeginWithTables() {
        CHECK.sentence("frames begin with these .. TABLES");
        StateFrames x = learned(dictionary(1, 1, 1, WORDS), 20);
        int[][] said = {{3, 4, 5}, {1, 9, 3}};
        byte[] literals = Make.text("vwxyz");
        byte[] due = Make.behind(Inside.model(WORDS, literals, new int[] {3, 1, 5}, new int[] {1, 6, 3}), 20);
        CHECK.dueContent("all three", x, Make.frame(Make.literals(literals), Make.bytes(2, Inside.REPEATED),
            Coder.sequences(LITERAL, DISTANCE, MATCH, said)), due);
        CHECK.dueContent("literal lengths", x, Make.frame(Make.literals(literals), Make.bytes(2, 192),
            Coder.sequences(LITERAL, Inside.DISTANCE, Inside.MATCH, said)), due);
        CHECK.dueContent("distances", x, Make.frame(Make.literals(literals), Make.bytes(2, 48),
            Coder.sequences(Inside.LITERAL, DISTANCE, Inside.MATCH, said)), due);
        CHECK.dueContent("match lengths", x, Make.frame(Make.literals(literals), Make.bytes(2, 12),
            Coder.sequences(Inside.LITERAL, Inside.DISTANCE, MATCH, said)), due);
    }

    private static byte[] latestFrame(int v) {
        int s = v == 1 ? 0 : 1;
        return Make.frame(Inside.singles(Make.bytes(8, 'z'), 1, 1, s, 0, v - (1 << s), s));
    }

    private static void framesBeginWithLatest() {
        CHECK.sentence("frames begin with these .. LATEST distances");
        StateFrames x = new StateFrames();
        for (int v = 1; v <= 3; v++) {
            dueLearn("told", x, dictionary(11, 13, 17, WORDS), 20);
            int told = v == 1 ? 11 : v == 2 ? 13 : 17;
            CHECK.dueContent("v " + v, x, latestFrame(v),
                Make.behind(Inside.model(WORDS, Make.text("z"), new int[] {1, told, 3}), 20));
            dueLearn("content alone", x, WORDS, 20);
            int plain = v == 1 ? 1 : v == 2 ? 4 : 8;
            CHECK.dueContent("v " + v + " of content alone", x, latestFrame(v),
                Make.behind(Inside.model(WORDS, Make.text("z"), new int[] {1, plain, 3}), 20));
        }
    }

    /** A frame that tells codes and tables of its own, and changes the latest distances. */
    private static byte[] change() {
        return Make.join(Make.HEAD,
            Make.packed(false, Make.coded(2, 0, 2, 3), Inside.BITS, Make.stream(1, 1, 1, 1),
                Make.bytes(1, Inside.SINGLES, 2, 2, 0), Make.stream(0, 2)),
            Make.packed(true, Make.coded(3, 0, 2, 1), Make.stream(1, 1, 0, 1), Make.bytes(1, Inside.REPEATED), Make.stream(1, 2)));
    }

    private static byte[] changed() {
        byte[] first = Inside.model(WORDS, Make.bytes(1, 1), new int[] {2, 1, 3});
        return Make.behind(Inside.model(first, Make.bytes(1, 0), new int[] {2, 2, 3}), 20);
    }

    private static void eachFrameBeginsWithIt() {
        CHECK.sentence("frames begin with these (each of them)");
        StateFrames x = learned(dictionary(5, 7, 6, WORDS), 20);
        CHECK.dueContent("twice", x, Make.join(useAll(), useAll()), Make.join(useContent(), useContent()));
        CHECK.dueContent("a frame that tells its own", x, change(), changed());
        CHECK.dueContent("and one behind it", x, Make.join(change(), useAll()), Make.join(changed(), useContent()));
        CHECK.dueContent("and in the next read", x, useAll(), useContent());
    }

    private static void noCodesOrTablesElse() {
        CHECK.sentence("At the beginning of a frame there are else no CODES and no TABLES.");
        byte[] codes = Make.frame(Make.coded(3, 0, 1, 1), Make.stream(1, 1), Inside.NONE);
        byte[] tables = Make.frame(Make.bytes(0, 1, Inside.REPEATED, 1));
        StateFrames x = new StateFrames();
        CHECK.dueRead("no DICTIONARY: CODES", x, codes, 99, -13, Make.INSIDE);
        CHECK.dueRead("no DICTIONARY: TABLES", x, tables, 99, -16, Make.INSIDE + 2);
        dueLearn("content alone", x, WORDS, 20);
        CHECK.dueRead("content alone: CODES", x, codes, 99, -13, Make.INSIDE);
        CHECK.dueRead("content alone: TABLES", x, tables, 99, -16, Make.INSIDE + 2);
        CHECK.dueRead("behind a frame that tells its own: CODES", x, Make.join(change(), codes), 99, -13,
            change().length + Make.INSIDE);
        CHECK.dueRead("behind a frame that tells its own: TABLES", x, Make.join(change(), tables), 99, -16,
            change().length + Make.INSIDE + 2);
    }

    private static byte[] withId(int... head) {
        return Make.join(Make.MARK, Make.bytes(head), Make.run(true, 'q', 2));
    }

    private static void idsOfFrames() {
        CHECK.sentence("4 an ID that is not 0 is not the DICTIONARY's");
        StateFrames x = learned(dictionary(1, 1, 1, WORDS), 20);
        byte[] due = Make.text("qq");
        CHECK.dueContent("no ID", x, withId(0, 0), due);
        CHECK.dueContent("77 in a byte", x, withId(1, 0, 77), due);
        CHECK.dueContent("77 in two", x, withId(2, 0, 77, 0), due);
        CHECK.dueContent("77 in four", x, withId(3, 0, 77, 0, 0, 0), due);
        CHECK.dueContent("0 in a byte", x, withId(1, 0, 0), due);
        CHECK.dueContent("0 in four", x, withId(3, 0, 0, 0, 0, 0), due);
        CHECK.dueRead("76", x, withId(1, 0, 76), 9, -4, 6);
        CHECK.dueRead("78", x, withId(1, 0, 78), 9, -4, 6);
        CHECK.dueRead("77 + 256", x, withId(2, 0, 77, 1), 9, -4, 6);
        CHECK.dueRead("77 + 2^24", x, withId(3, 0, 77, 0, 0, 1), 9, -4, 6);
        byte[] high = dictionary(1, 1, 1, WORDS);
        high[7] = 1;
        dueLearn("ID 77 + 2^24", x, high, 20);
        CHECK.dueRead("its lowest byte alone", x, withId(1, 0, 77), 9, -4, 6);
        dueLearn("content alone", x, WORDS, 20);
        CHECK.dueRead("77 with content alone", x, withId(1, 0, 77), 9, -4, 6);
    }

    private static void learnedInTheOthersPlace() {
        CHECK.sentence("IN becomes the DICTIONARY (there being one)");
        StateFrames x = learned(dictionary(5, 7, 6, WORDS), 20);
        byte[] other = new Coder(5, 31, -1).told();
        byte[] second = Make.join(MARK, Make.number(5, 4), Inside.BITS, other, other, other,
            Make.number(1, 4), Make.number(2, 4), Make.number(3, 4), Make.text("xyz"));
        dueLearn("a second one", x, second, 3);
        dueDictionary("a second one", x, 3, 5);
        byte[] again = Make.frame(Make.coded(3, 0, 2, 1), Make.stream(1, 1, 0, 1), Inside.NONE);
        CHECK.dueContent("its codes", x, again, Make.bytes(1, 0));
        CHECK.dueContent("its third distance", x, latestFrame(3), Make.text("zyzz"));
        dueLearn("the first one again", x, dictionary(5, 7, 6, WORDS), 20);
        CHECK.dueContent("the first one again", x, useAll(), useContent());
        dueLearn("content alone", x, Make.text("xyz"), 3);
        dueDictionary("content alone", x, 3, 0);
        CHECK.dueRead("content alone has no codes", x, again, 9, -13, Make.INSIDE);
    }

    private static void forgotten() {
        CHECK.sentence("forget(): There is no DICTIONARY.");
        StateFrames x = learned(dictionary(5, 7, 6, WORDS), 20);
        CHECK.dueContent("with it", x, useAll(), useContent());
        x.forget();
        dueDictionary("forgotten", x, 0, 0);
        CHECK.due("IN stays, CODES do not", x.read(100), -13);
        CHECK.dueOut("OUT stays", x, useContent());
        CHECK.dueRead("its ID", x, withId(1, 0, 77), 9, -4, 6);
        CHECK.dueRead("its TABLES", x, Make.frame(Make.bytes(0, 1, Inside.REPEATED, 1)), 9, -16, Make.INSIDE + 2);
        byte[] back = Make.frame(Inside.singles(Make.bytes(8, 'z'), 1, 1, 2, 0, 1, 2));
        CHECK.dueRead("its content", x, back, 9, -18, Make.INSIDE + 2 + 5);
        byte[] eight = Make.frame(Inside.singles(Make.literals(Make.text("stuvwxyz")), 1, 8, 1, 0, 1, 1));
        CHECK.dueContent("its distances", x, eight, Make.text("stuvwxyzstu"));
        dueLearn("it again", x, dictionary(5, 7, 6, WORDS), 20);
        CHECK.dueContent("with it again", x, useAll(), useContent());
    }

    private static void nothingToForget() {
        CHECK.sentence("forget(): There is no DICTIONARY (before, either)");
        StateFrames x = new StateFrames();
        x.forget();
        dueDictionary("none", x, 0, 0);
        dueLearn("one", x, WORDS, 20);
        x.forget();
        x.forget();
        dueDictionary("twice", x, 0, 0);
        CHECK.dueContent("a frame", x, withId(0, 0), Make.text("qq"));
        CHECK.due("PLACE stays", x.about(0), withId(0, 0).length);
        x.forget();
        CHECK.due("PLACE stays behind it", x.about(0), withId(0, 0).length);
        CHECK.dueOut("OUT stays behind it", x, Make.text("qq"));
    }
}
