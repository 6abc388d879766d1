import java.util.ArrayList;
import java.util.Arrays;
import java.util.List;

/** Promise 7: shares, told and known, as the tables of sequences. */
public final class SharesTest {
    private static final Check CHECK = new Check("SharesTest");
    private static final int LITERAL_LENGTHS = 0;
    private static final int DISTANCES = 1;
    private static final int MATCH_LENGTHS = 2;
    private static final int[] LASTS = {35, 31, 52};
    private static final int[] GREATEST = {9, 8, 9};

    /** MODES of the wrong tables stand behind the literals abc and a byte. */
    private static final int MODES = Make.INSIDE + 7;

    private static final int[] LITERAL_FROM = {16, 18, 20, 22, 24, 28, 32, 40, 48, 64,
        128, 256, 512, 1024, 2048, 4096, 8192, 16384, 32768, 65536};
    private static final int[] LITERAL_BITS = {1, 1, 1, 1, 2, 2, 3, 3, 4, 6, 7, 8, 9, 10, 11, 12, 13, 14, 15, 16};
    private static final int[] MATCH_FROM = {35, 37, 39, 41, 43, 47, 51, 59, 67, 83, 99,
        131, 259, 515, 1027, 2051, 4099, 8195, 16387, 32771, 65539};
    private static final int[] MATCH_BITS = {1, 1, 1, 1, 2, 2, 3, 3, 4, 4, 5, 7, 8, 9, 10, 11, 12, 13, 14, 15, 16};

    public static void main(String[] args) {
        oneHasAllPoints();
        pointsBelowNone();
        onlyPointsBelowNone();
        walkModulo();
        knownLiteralLengths();
        knownDistances();
        knownMatchLengths();
        leastOrder();
        greatestOrders();
        aboveGreatestOrder();
        numbersOfPoints();
        nonesInTwoBits();
        restOfTheLastByte();
        endsWithAByte();
        lastHasPoints();
        pointsAboveLast();
        nonesAboveLast();
        somethingLacks();
        bytesEnd();
        behindAnotherOne();
        oneSymbol();
        oneSymbolBehindAShare();
        symbolAboveLast();
        CHECK.end();
    }

    /** MODES and tables: those of one kind by a mode, the others one symbol each: 1, 2 and 0. */
    private static byte[] tables(int kind, int mode, byte[] told) {
        int[] modes = {1, 1, 1};
        byte[][] parts = {Make.bytes(1), Make.bytes(2), Make.bytes(0)};
        modes[kind] = mode;
        parts[kind] = told;
        return Make.join(Make.bytes(64 * modes[0] + 16 * modes[1] + 4 * modes[2]), Make.join(parts));
    }

    /** Each place has the symbol that is due, and leads from its base to the last that its bits reach. */
    private static void dueShare(String what, int kind, byte[] told, Coder share) {
        for (int place = 0; place < 1 << share.order; place++) {
            dueStep(what + ", place " + place, kind, told, share, place, 0);
            dueStep(what + ", place " + place + " on", kind, told, share, place, (1 << share.bitsAt(place)) - 1);
        }
    }

    private static void dueStep(String what, int kind, byte[] told, Coder share, int place, int on) {
        int first = share.symbolAt(place);
        int second = share.symbolAt(share.baseAt(place) + on);
        List<Long> pairs = new ArrayList<>();
        share.addFirst(pairs, place);
        Coder.add(pairs, 0, kind == DISTANCES ? first : 2);
        Coder.add(pairs, on, share.bitsAt(place));
        Coder.add(pairs, 0, kind == DISTANCES ? second : 2);
        byte[] literals = Inside.differing(30);
        byte[] before = Inside.differing(kind == DISTANCES ? 600 : 1);
        byte[] all = Make.join(Make.HEAD, Make.raw(false, before),
            Make.packed(true, Make.literals(literals), Make.bytes(2), tables(kind, 2, told), Coder.stream(pairs)));
        CHECK.dueContent(what, all, Inside.model(before, literals, meant(kind, first, 0), meant(kind, second, first)));
    }

    /** {literal length, distance, match length} of a symbol, behind another one. */
    private static int[] meant(int kind, int symbol, int behind) {
        int literal = kind == LITERAL_LENGTHS ? symbol : 1;
        int match = kind == MATCH_LENGTHS ? symbol + 3 : 3;
        return new int[] {literal, kind == DISTANCES ? distance(symbol, behind) : 1, match};
    }

    /** Distances that are v - 3, or of the latest: 1 and 4 at first. */
    private static int distance(int symbol, int behind) {
        if (symbol > 1) {
            return (1 << symbol) - 3;
        }
        int first = behind > 1 ? (1 << behind) - 3 : behind == 1 ? 4 : 1;
        int second = behind > 0 ? 1 : 4;
        return symbol == 0 ? first : second;
    }

    private static void oneHasAllPoints() {
        CHECK.sentence("all masses are 2^L (of one symbol: its places take no bits)");
        for (int order = 5; order <= 7; order++) {
            Coder share = new Coder(order, 0, 0, 0, 1 << order);
            CHECK.due("bits", share.bitsAt(0), 0);
            for (int kind = 0; kind < 3; kind++) {
                dueShare("order " + order + ", kind " + kind, kind, share.told(), share);
            }
        }
    }

    private static void pointsBelowNone() {
        CHECK.sentence("Each symbol with -1 points, in rising order, has the highest place that is not taken.");
        for (int kind = 0; kind < 3; kind++) {
            Coder share = new Coder(5, -1, 10, -1, -1, 18, 0, -1);
            CHECK.due("the highest place", share.symbolAt(31), 0);
            CHECK.due("the fourth below it", share.symbolAt(28), 6);
            dueShare("kind " + kind, kind, share.told(), share);
        }
    }

    private static void onlyPointsBelowNone() {
        CHECK.sentence("Each symbol with -1 points .. (there being no other)");
        int[] points = new int[32];
        Arrays.fill(points, -1);
        Coder all = new Coder(5, points);
        int[][] said = {{3, 4, 34}, {2, 5, 3}};
        byte[] literals = Inside.differing(40);
        byte[] block = Make.join(Make.literals(literals), Make.bytes(2, 128 + 32 + 8), all.told(), all.told(), all.told(),
            Coder.sequences(all, all, all, said));
        CHECK.dueContent("shares of -1 alone", Make.frame(block),
            Inside.model(new byte[0], literals, new int[] {3, 1, 34}, new int[] {2, 2, 3}));
    }

    private static void walkModulo() {
        CHECK.sentence("by steps of 2^(L - 1) + 2^(L - 3) + 3, modulo 2^L, places of those with -1 points being left out");
        dueShare("order 5", LITERAL_LENGTHS, new Coder(5, 7, 9, 3, 12, 1).told(), new Coder(5, 7, 9, 3, 12, 1));
        dueShare("order 6", DISTANCES, new Coder(6, 20, -1, 23, -1, 19).told(), new Coder(6, 20, -1, 23, -1, 19));
        Coder seven = new Coder(7, 1, -1, 60, -1, 30, 33, -1, -1);
        dueShare("order 7", MATCH_LENGTHS, seven.told(), seven);
        Coder eight = new Coder(8, 100, 100, -1, 55);
        dueShare("order 8", DISTANCES, eight.told(), eight);
        Coder nine = new Coder(9, -1, 200, 100, -1, 17, 0, 0, 193);
        dueShare("order 9", LITERAL_LENGTHS, nine.told(), nine);
    }

    /** The first state alone: its symbol takes so many bits, and no fewer, and comes to an answer. */
    private static void dueKnown(int kind, Coder share, int place, int bits, byte[] literals, int answer) {
        byte[] before = Make.join(Make.WIDE, Make.run(false, 'x', 1));
        byte[] tables = tables(kind, 0, new byte[0]);
        List<Long> pairs = new ArrayList<>();
        share.addFirst(pairs, place);
        Coder.add(pairs, 0, bits);
        String what = "place " + place + " of kind " + kind;
        byte[] all = Make.join(before, Make.packed(true, literals, Make.bytes(1), tables, Coder.stream(pairs)));
        int stream = before.length + 3 + literals.length + 1 + tables.length;
        CHECK.dueRead(what, new StateFrames(), all, 32768, answer, answer < 0 ? stream : all.length);
        if (bits > 0) {
            pairs.set(3, bits - 1L);
            all = Make.join(before, Make.packed(true, literals, Make.bytes(1), tables, Coder.stream(pairs)));
            CHECK.dueRead(what + ", a bit lacks", new StateFrames(), all, 32768, -17, stream);
        }
    }

    private static void knownLiteralLengths() {
        CHECK.sentence("literal lengths, L 6: 4, 3, eleven times 2, thrice 1, nine times 2, 3, 2, five times 1, four times -1");
        for (int place = 0; place < 64; place++) {
            int s = Inside.LITERAL.symbolAt(place);
            int length = s < 16 ? s : LITERAL_FROM[s - 16];
            int bits = 2 + (s < 16 ? 0 : LITERAL_BITS[s - 16]);
            dueKnown(LITERAL_LENGTHS, Inside.LITERAL, place, bits, Inside.times(7, length), length < 32765 ? length + 4 : -7);
        }
    }

    private static void knownDistances() {
        CHECK.sentence("Distances, L 5: six times 1, thrice 2, fifteen times 1, five times -1");
        for (int place = 0; place < 32; place++) {
            int s = Inside.DISTANCE.symbolAt(place);
            // Behind two bytes, 1 is no more too far; 4 and what is above 2 are.
            dueKnown(DISTANCES, Inside.DISTANCE, place, s, Inside.times(7, 1), s == 0 || s == 2 ? 5 : -18);
        }
    }

    private static void knownMatchLengths() {
        CHECK.sentence("Match lengths, L 6: 1, 4, 3, six times 2, 37 times 1, seven times -1");
        for (int place = 0; place < 64; place++) {
            int s = Inside.MATCH.symbolAt(place);
            int length = s < 32 ? s + 3 : MATCH_FROM[s - 32];
            int bits = 2 + (s < 32 ? 0 : MATCH_BITS[s - 32]);
            dueKnown(MATCH_LENGTHS, Inside.MATCH, place, bits, Inside.times(7, 1), length < 32767 ? length + 2 : -7);
        }
    }

    private static void leastOrder() {
        CHECK.sentence("4 bits, L - 5 (0: L is 5)");
        Coder five = new Coder(5, 11, 21);
        CHECK.due("its four bits", five.told()[0] & 15, 0);
        for (int kind = 0; kind < 3; kind++) {
            dueShare("kind " + kind, kind, five.told(), five);
        }
    }

    private static void greatestOrders() {
        CHECK.sentence("Greatest orders 9, 8, 9");
        for (int kind = 0; kind < 3; kind++) {
            int all = 1 << GREATEST[kind];
            Coder share = new Coder(GREATEST[kind], -1, all / 2, all / 4 - 2, all / 4, -1);
            dueShare("order " + GREATEST[kind], kind, share.told(), share);
        }
    }

    private static byte[] wrongFrame(int kind, byte[]... told) {
        return Make.frame(Inside.ABC, Make.bytes(1), tables(kind, 2, Make.join(told)));
    }

    private static void dueWrong(String what, int kind, byte[]... told) {
        CHECK.dueFault(what + ", kind " + kind, wrongFrame(kind, told), 16, MODES);
    }

    private static void aboveGreatestOrder() {
        CHECK.sentence("It is WRONG if L is above the greatest order");
        byte[] rest = Make.times(1, 40);
        for (int kind = 0; kind < 3; kind++) {
            for (int order = GREATEST[kind] + 1; order <= 12; order++) {
                Coder share = new Coder(order, 1 << order - 1, 1 << order - 1);
                dueWrong("order " + order, kind, share.told(), rest);
            }
            dueWrong("order 20", kind, Make.bytes(15), Make.times(255, 40));
        }
    }

    private static void dueTold(int[] points, long... pairs) {
        Coder share = new Coder(5, points);
        byte[] told = Make.upwards(pairs);
        dueShare(Arrays.toString(points), LITERAL_LENGTHS, told, share);
        dueShare(Arrays.toString(points), MATCH_LENGTHS, told, share);
    }

    private static int[] points(int... values) {
        return values;
    }

    /** The bits are written out here, so that no packer of ours can share a misreading with the reader. */
    private static void numbersOfPoints() {
        CHECK.sentence("a number u; if it is not below m, it has one bit more, and is less by m if it is t or more then");
        dueTold(points(28, 4), 0, 4, 29, 5, 7, 3);
        dueTold(points(29, 3), 0, 4, 30, 6, 7, 3);
        dueTold(points(30, 2), 0, 4, 31, 6, 3, 2);
        dueTold(points(31, 1), 0, 4, 62, 6, 3, 2);
        dueTold(points(31, -1), 0, 4, 62, 6, 0, 1);
        dueTold(points(32), 0, 4, 63, 6);
        dueTold(points(-1, 31), 0, 4, 0, 5, 63, 6);
        dueTold(points(-1, 30, -1), 0, 4, 0, 5, 31, 6, 0, 1);
        dueTold(points(1, 29, 1, 1), 0, 4, 2, 5, 30, 5, 2, 2, 3, 2);
        dueTold(points(-1, 29, -1, -1), 0, 4, 0, 5, 30, 5, 0, 2, 0, 1);
        dueTold(points(31, 0, 1), 0, 4, 62, 6, 1, 2, 0, 2, 3, 2);
        dueTold(points(30, 0, 2), 0, 4, 31, 6, 1, 2, 0, 2, 3, 2);
    }

    private static void nonesInTwoBits() {
        CHECK.sentence("in 2 bits each, how many of the next have 0 points, too: 3 means that another such number follows");
        for (int none = 0; none <= 14; none++) {
            int[] points = new int[none + 2];
            points[none + 1] = 32;
            List<Long> pairs = new ArrayList<>();
            Coder.add(pairs, 0, 4);
            Coder.add(pairs, 1, 5);
            for (int k = 0; k < none / 3; k++) {
                Coder.add(pairs, 3, 2);
            }
            Coder.add(pairs, none % 3, 2);
            Coder.add(pairs, 63, 6);
            byte[] told = Make.upwards(pairs.stream().mapToLong(x -> x).toArray());
            dueShare(none + " of the next", LITERAL_LENGTHS, told, new Coder(5, points));
        }
    }

    private static void restOfTheLastByte() {
        CHECK.sentence("What is left of the last byte counts for nothing.");
        dueTold(points(32), 0, 4, 63, 6, 63, 6);
        dueTold(points(32), 0, 4, 63, 6, 1, 6);
        dueTold(points(31, -1), 0, 4, 62, 6, 0, 1, 31, 5);
        dueTold(points(28, 4), 0, 4, 29, 5, 7, 3, 15, 4);
    }

    private static void endsWithAByte() {
        CHECK.sentence("What is left of the last byte (nothing)");
        CHECK.due("bytes", Make.upwards(0, 4, 62, 6, 1, 2, 0, 2, 3, 2).length, 2);
        dueTold(points(31, 0, 1), 0, 4, 62, 6, 1, 2, 0, 2, 3, 2);
        byte[] two = new Coder(5, 31, 0, 1).told();
        CHECK.dueFault("a share that ends with the block", wrongFrame(MATCH_LENGTHS, two), 17, MODES + 3 + two.length);
    }

    private static byte[] toldAt(int symbol) {
        int[] points = new int[symbol + 1];
        points[symbol] = 32;
        return new Coder(5, points).told();
    }

    private static void lastHasPoints() {
        CHECK.sentence("LAST 35, 31, 52 (and LAST may have points)");
        // Sixteen bits more of a length, or 31 of a distance: if LAST is their symbol, just these are read.
        CHECK.dueFault("35", Make.frame(Inside.ABC, Make.bytes(1), tables(LITERAL_LENGTHS, 2, toldAt(35)),
            Make.stream(0, 5, 0, 18)), 19, MODES + 1 + toldAt(35).length + 2);
        CHECK.dueFault("35, a bit lacks", Make.frame(Inside.ABC, Make.bytes(1), tables(LITERAL_LENGTHS, 2, toldAt(35)),
            Make.stream(0, 5, 0, 17)), 17, MODES + 1 + toldAt(35).length + 2);
        CHECK.dueFault("31", Make.frame(Inside.ABC, Make.bytes(1), tables(DISTANCES, 2, toldAt(31)),
            Make.stream(0, 5, 0, 31)), 18, MODES + 1 + toldAt(31).length + 2);
        CHECK.dueFault("31, a bit lacks", Make.frame(Inside.ABC, Make.bytes(1), tables(DISTANCES, 2, toldAt(31)),
            Make.stream(0, 5, 0, 30)), 17, MODES + 1 + toldAt(31).length + 2);
        CHECK.dueFault("52", Make.frame(Inside.ABC, Make.bytes(1), tables(MATCH_LENGTHS, 2, toldAt(52)),
            Make.stream(0, 5, 0, 18)), 20, MODES + 1 + toldAt(52).length + 2);
        CHECK.dueFault("52, a bit lacks", Make.frame(Inside.ABC, Make.bytes(1), tables(MATCH_LENGTHS, 2, toldAt(52)),
            Make.stream(0, 5, 0, 17)), 17, MODES + 1 + toldAt(52).length + 2);
    }

    private static void pointsAboveLast() {
        CHECK.sentence("It is WRONG if .. a symbol above LAST would have points");
        byte[] rest = Make.times(1, 40);
        for (int kind = 0; kind < 3; kind++) {
            dueWrong("all points", kind, toldAt(LASTS[kind] + 1), rest);
            int[] points = new int[LASTS[kind] + 2];
            points[0] = 31;
            points[LASTS[kind] + 1] = -1;
            dueWrong("one of them", kind, new Coder(5, points).told(), rest);
            points = new int[LASTS[kind] + 2];
            Arrays.fill(points, 1);
            points[LASTS[kind] + 1] = (1 << 8) - LASTS[kind] - 1;
            dueWrong("what all others leave", kind, new Coder(8, points).told(), rest);
        }
    }

    private static void nonesAboveLast() {
        CHECK.sentence("It is WRONG if .. a symbol above LAST would .. be said to have none");
        for (int kind = 0; kind < 3; kind++) {
            dueWrong("one above", kind, toldAt(LASTS[kind] + 2), Make.times(1, 40));
            dueWrong("two above", kind, toldAt(LASTS[kind] + 3), Make.times(1, 40));
            dueWrong("without an end", kind, Make.bytes(0x10, 0xFE), Make.times(255, 60));
            int[] points = new int[LASTS[kind] + 2];
            points[LASTS[kind] - 1] = 31;
            points[LASTS[kind] + 1] = 1;
            dueWrong("LAST itself", kind, new Coder(5, points).told(), Make.times(0, 40));
        }
    }

    private static void somethingLacks() {
        CHECK.sentence("It is WRONG if .. something lacks when LAST has its points");
        for (int kind = 0; kind < 3; kind++) {
            int[] points = new int[LASTS[kind] + 2];
            points[LASTS[kind]] = 31;
            points[LASTS[kind] + 1] = 1;
            dueWrong("1 of 32", kind, new Coder(5, points).told(), Make.times(1, 40));
            Arrays.fill(points, -1);
            points[LASTS[kind] + 1] = (1 << 7) - LASTS[kind] - 1;
            byte[] told = new Coder(7, points).told();
            dueWrong("most, all having -1", kind, told, Make.times(1, 40));
            dueWrong("most, and the bytes end", kind, told);
        }
    }

    /** A block that ends with a share of a kind. */
    private static byte[] endsWith(int kind, byte[] told) {
        byte[] modes = Make.first(tables(kind, 2, new byte[0]), 1 + kind);
        return Make.packed(false, Inside.ABC, Make.bytes(1), modes, told);
    }

    private static void dueEnds(String what, int kind, byte[] told) {
        String name = what + ", kind " + kind;
        CHECK.dueFault(name, Make.join(Make.HEAD, endsWith(kind, told)), 16, MODES);
        CHECK.dueFault(name + ", a block behind it", Make.join(Make.HEAD, endsWith(kind, told),
            Make.run(true, 255, 1023)), 16, MODES);
    }

    private static void bytesEnd() {
        CHECK.sentence("It is WRONG if .. its bytes end within it");
        byte[] told = new Coder(8, -1, 100, 0, 0, 0, 0, 0, 50, 30, 70, 4, -1).told();
        for (int kind = 0; kind < 3; kind++) {
            for (int n = 0; n < told.length; n++) {
                dueEnds("cut at " + n, kind, Make.first(told, n));
            }
            dueEnds("another number of those that have none", kind, Make.upwards(0, 4, 2, 5, 1, 5, 3, 2));
            dueEnds("the one bit more", kind, Make.upwards(0, 4, 1, 5, 0, 2, 31, 5));
            // 1 and 29, 1; -1 and 30: only 1 of 32 lacks then.
            dueEnds("the last number", kind, Make.upwards(0, 4, 2, 5, 30, 5, 2, 2));
            dueEnds("the one bit more of the last number", kind, Make.upwards(0, 4, 0, 5, 31, 6, 1, 1));
        }
        CHECK.dueFault("not within it: the next symbol lacks",
            Make.join(Make.HEAD, endsWith(LITERAL_LENGTHS, told)), 10, MODES + 1 + told.length);
        CHECK.dueFault("not within it: the stream lacks",
            Make.join(Make.HEAD, endsWith(MATCH_LENGTHS, told)), 17, MODES + 3 + told.length);
    }

    /** What an earlier share told must not be left in a later one. */
    private static void behindAnotherOne() {
        CHECK.sentence("2 a SHARE TOLD (one behind another)");
        byte[] before = Inside.differing(600);
        byte[] literals = Inside.differing(30);
        Coder many = new Coder(6, 10, 10, 10, 10, 10, 10, 3, -1);
        Coder few = new Coder(5, 0, 0, 20, 12);
        for (int kind = 0; kind < 3; kind++) {
            byte[] first = told(false, kind, many, literals);
            byte[] due = Inside.model(before, literals, meant(kind, 2, 0), meant(kind, 2, 2));
            for (int place = 0; place < 32; place++) {
                int one = few.symbolAt(place);
                int two = few.symbolAt(few.baseAt(place));
                List<Long> pairs = new ArrayList<>();
                few.addFirst(pairs, place);
                Coder.add(pairs, 0, kind == DISTANCES ? one : 2);
                few.addStep(pairs, place, few.baseAt(place));
                Coder.add(pairs, 0, kind == DISTANCES ? two : 2);
                byte[] second = Make.packed(true, Make.literals(literals), Make.bytes(2), tables(kind, 2, few.told()), Coder.stream(pairs));
                CHECK.dueContent("place " + place + " of kind " + kind, Make.join(Make.HEAD, Make.raw(false, before), first, second),
                    Inside.model(due, literals, meant(kind, one, 2), meant(kind, two, one)));
            }
        }
    }

    /** A block of two sequences, of symbol 2 of a kind, which a share tells. */
    private static byte[] told(boolean last, int kind, Coder share, byte[] literals) {
        int[] states = share.states(2, 2);
        List<Long> pairs = new ArrayList<>();
        share.addFirst(pairs, states[0]);
        Coder.add(pairs, 0, 2);
        share.addStep(pairs, states[0], states[1]);
        Coder.add(pairs, 0, 2);
        return Make.packed(last, Make.literals(literals), Make.bytes(2), tables(kind, 2, share.told()), Coder.stream(pairs));
    }

    private static void oneSymbolBehindAShare() {
        CHECK.sentence("1 a byte, its symbol, in one place that takes no bits (L 0) (behind a SHARE TOLD)");
        byte[] before = Inside.differing(600);
        byte[] literals = Inside.differing(30);
        // Place 0 takes bits and leads elsewhere, as 7 is no power of two.
        Coder share = new Coder(5, 7, 9, 8, 8);
        for (int kind = 0; kind < 3; kind++) {
            byte[] first = told(false, kind, share, literals);
            byte[] single = Make.packed(true, Make.literals(literals), Make.bytes(3, Inside.SINGLES, 1, 2, 0),
                Make.stream(0, 2, 0, 2, 0, 2));
            byte[] due = Inside.model(before, literals, meant(kind, 2, 0), meant(kind, 2, 2));
            due = Inside.model(due, literals, new int[] {1, 1, 3}, new int[] {1, 1, 3}, new int[] {1, 1, 3});
            CHECK.dueContent("kind " + kind, Make.join(Make.HEAD, Make.raw(false, before), first, single), due);
        }
    }

    private static void oneSymbol() {
        CHECK.sentence("1 a byte, its symbol, in one place that takes no bits (L 0)");
        CHECK.dueContent("no bits but those of the distance", Inside.abc(1, 3, 2, 0, 0, 2), Make.text("abcccc"));
        CHECK.dueContent("three times", Inside.abc(3, 1, 2, 0, 0, 2, 0, 2, 0, 2), Make.text("aaaabbbbcccc"));
        CHECK.dueFault("a bit for a state", Inside.abc(1, 3, 2, 0, 0, 3), 17, Make.INSIDE + 11);
        CHECK.dueFault("35", Inside.abc(1, 35, 2, 0, 0, 18), 19, Make.INSIDE + 11);
        CHECK.dueFault("31", Inside.abc(1, 3, 31, 0, 0, 31), 18, Make.INSIDE + 11);
        CHECK.dueFault("52", Inside.abc(1, 3, 2, 52, 0, 18), 20, Make.INSIDE + 11);
    }

    private static void symbolAboveLast() {
        CHECK.sentence("16 .. a symbol is above LAST .. (.. the PLACE is MODES)");
        int[] symbols = {3, 2, 0};
        for (int kind = 0; kind < 3; kind++) {
            for (int symbol : new int[] {LASTS[kind] + 1, 64, 128, 255}) {
                int[] s = symbols.clone();
                s[kind] = symbol;
                CHECK.dueFault(symbol + " of kind " + kind, Inside.abc(1, s[0], s[1], s[2], 0, 60), 16, MODES);
            }
        }
    }
}
