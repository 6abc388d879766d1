import java.util.Arrays;

/**
 * Reads frames of bytes that are packed by copies and coded by prefixes and states: blocks of
 * literals and sequences, tables that are told, repeated or known, distances that are said again,
 * dictionaries; every byte that comes of them, or the first fault and its place.
 *
 * <p>All rows are made once, with the object: no call makes an object of its own.
 */
public final class StateFrames {
    private static final int IN_MOST = 12000;
    private static final int OUT_MOST = 32768;
    private static final int BLOCK_MOST = 131072;
    private static final int REFUSED = -40;
    private static final int INT_MOST = 2147483647;
    private static final long LONG_MOST = 9223372036854775807L;

    /** What telling a share or a description answers in place of the index behind it. */
    private static final int WRONG = -1;

    private static final int CODES_MOST_ORDER = 11;
    private static final int WEIGHTS_MOST = 255;
    private static final int WEIGHTS_ORDER = 6;
    private static final int WEIGHTS_LAST = 11;

    /** The three kinds of tables stand in the order in which MODES name them. */
    private static final int LITERAL_LENGTHS = 0;
    private static final int DISTANCES = 1;
    private static final int MATCH_LENGTHS = 2;
    private static final int KINDS = 3;

    private static final int[] GREATEST_ORDERS = {9, 8, 9};
    private static final int[] LASTS = {35, 31, 52};

    private static final int[] LITERAL_FROM = {
        0, 1, 2, 3, 4, 5, 6, 7, 8, 9, 10, 11, 12, 13, 14, 15,
        16, 18, 20, 22, 24, 28, 32, 40, 48, 64,
        128, 256, 512, 1024, 2048, 4096, 8192, 16384, 32768, 65536};
    private static final int[] LITERAL_MORE = {
        0, 0, 0, 0, 0, 0, 0, 0, 0, 0, 0, 0, 0, 0, 0, 0,
        1, 1, 1, 1, 2, 2, 3, 3, 4, 6,
        7, 8, 9, 10, 11, 12, 13, 14, 15, 16};
    private static final int[] MATCH_FROM = {
        3, 4, 5, 6, 7, 8, 9, 10, 11, 12, 13, 14, 15, 16, 17, 18,
        19, 20, 21, 22, 23, 24, 25, 26, 27, 28, 29, 30, 31, 32, 33, 34,
        35, 37, 39, 41, 43, 47, 51, 59, 67, 83, 99,
        131, 259, 515, 1027, 2051, 4099, 8195, 16387, 32771, 65539};
    private static final int[] MATCH_MORE = {
        0, 0, 0, 0, 0, 0, 0, 0, 0, 0, 0, 0, 0, 0, 0, 0,
        0, 0, 0, 0, 0, 0, 0, 0, 0, 0, 0, 0, 0, 0, 0, 0,
        1, 1, 1, 1, 2, 2, 3, 3, 4, 4, 5,
        7, 8, 9, 10, 11, 12, 13, 14, 15, 16};

    private static final int[] KNOWN_ORDERS = {6, 5, 6};
    private static final int[] KNOWN_LITERAL_LENGTHS = {
        4, 3, 2, 2, 2, 2, 2, 2, 2, 2, 2, 2, 2, 1, 1, 1,
        2, 2, 2, 2, 2, 2, 2, 2, 2, 3, 2, 1, 1, 1, 1, 1,
        -1, -1, -1, -1};
    private static final int[] KNOWN_DISTANCES = {
        1, 1, 1, 1, 1, 1, 2, 2, 2, 1, 1, 1, 1, 1, 1, 1,
        1, 1, 1, 1, 1, 1, 1, 1, -1, -1, -1, -1, -1};
    private static final int[] KNOWN_MATCH_LENGTHS = {
        1, 4, 3, 2, 2, 2, 2, 2, 2, 1, 1, 1, 1, 1, 1, 1,
        1, 1, 1, 1, 1, 1, 1, 1, 1, 1, 1, 1, 1, 1, 1, 1,
        1, 1, 1, 1, 1, 1, 1, 1, 1, 1, 1, 1, 1, 1,
        -1, -1, -1, -1, -1, -1, -1};

    private static final long FRAME_MARK = 0xFD2FB528L;
    private static final long SPARE_MARK = 0x184D2A50L;
    private static final long SPARE_MARK_BITS = 0xFFFFFFF0L;
    private static final long DICTIONARY_MARK = 0xEC30A437L;

    private static final long Q1 = 0x9E3779B185EBCA87L;
    private static final long Q2 = 0xC2B2AE3D27D4EB4FL;
    private static final long Q3 = 0x165667B19E3779F9L;
    private static final long Q4 = 0x85EBCA77C2B2AE63L;
    private static final long Q5 = 0x27D4EB2F165667C5L;

    private final Row in;
    private final Row out;
    private final Dictionary dictionary;
    private final Report report;
    private final Content content;
    private final FrameReader reader;

    public StateFrames() {
        in = new Row(IN_MOST);
        out = new Row(OUT_MOST);
        dictionary = new Dictionary();
        report = new Report();
        content = new Content(dictionary.content);
        reader = new FrameReader(in, dictionary, report, content);
    }

    public boolean write(long eight, int n) {
        if (n < 1 || n > 8 || !in.hasRoom(n)) {
            return false;
        }
        for (int k = 0; k < n; k++) {
            in.put((int) (eight >>> 56 - 8 * k));
        }
        return true;
    }

    public boolean again(int m, int n) {
        if (m < 1 || m > in.count || n < 0 || !in.hasRoom((long) m * n)) {
            return false;
        }
        in.putBack(m, m * n);
        return true;
    }

    public void clear() {
        in.empty();
    }

    public int learn() {
        int answer = dictionary.takeFrom(in);
        if (answer >= 0) {
            in.empty();
        }
        return answer;
    }

    public void forget() {
        dictionary.drop();
    }

    public int read(int most) {
        if (most < 0 || most > OUT_MOST) {
            return REFUSED;
        }
        reader.start(most);
        // Each step leaves at least three bytes of IN behind, or finds a fault.
        for (int steps = 0; steps <= IN_MOST && reader.goesOn(); steps++) {
            if (reader.inFrame) {
                reader.block();
            } else {
                reader.beginning();
            }
        }
        if (report.fault != 0) {
            return -report.fault;
        }
        report.place = in.count;
        out.empty();
        out.putPart(content.bytes, 0, content.bytes.count);
        return out.count;
    }

    public int about(int what) {
        switch (what) {
            case 0:
                return report.place;
            case 1:
                return report.heads;
            case 2:
                return report.blocks;
            case 3:
                return report.sequences;
            case 4:
                return content.bytes.count;
            case 5:
                return report.window;
            case 6:
                return dictionary.content.count;
            case 7:
                return (int) dictionary.id;
            default:
                return -1;
        }
    }

    public int size() {
        return out.count;
    }

    public int byteAt(int k) {
        return k >= 0 && k < out.count ? out.at(k) : -1;
    }

    /** A row of bytes with a room that never changes. */
    private static final class Row {
        private final byte[] bytes;
        private int count;

        Row(int room) {
            bytes = new byte[room > 0 ? room : 0];
            count = 0;
        }

        void empty() {
            count = 0;
        }

        int at(int k) {
            return k >= 0 && k < count ? bytes[k] & 255 : 0;
        }

        /** The number in n bytes, the lowest first; 0 when they are not all there. */
        long number(int from, int n) {
            long value = 0;
            if (from >= 0 && from <= count - n) {
                for (int k = from + n - 1; k >= from; k--) {
                    value = value << 8 | bytes[k] & 255;
                }
            }
            return value;
        }

        boolean hasRoom(long n) {
            return n <= bytes.length - count;
        }

        void put(int b) {
            if (count < bytes.length) {
                bytes[count] = (byte) b;
                count++;
            }
        }

        /** Puts a byte n times, as far as there is room. */
        void putTimes(int b, int n) {
            int most = Math.min(n, bytes.length - count);
            if (most > 0) {
                Arrays.fill(bytes, count, count + most, (byte) b);
                count += most;
            }
        }

        /** Puts n bytes from a distance back, one by one: they may be those that it has just put. */
        void putBack(int distance, int n) {
            if (distance < 1 || distance > count) {
                return;
            }
            int end = count + Math.min(n, bytes.length - count);
            for (; count < end; count++) {
                bytes[count] = bytes[count - distance];
            }
        }

        /** Puts n bytes of another row, as far as there is room. */
        void putPart(Row other, int from, int n) {
            int most = Math.min(n, bytes.length - count);
            if (most > 0 && from >= 0 && from <= other.count - most) {
                System.arraycopy(other.bytes, from, bytes, count, most);
                count += most;
            }
        }
    }

    /** What about() tells of the latest read, and its fault. */
    private static final class Report {
        private int fault;
        private int place;
        private int heads;
        private int blocks;
        private int sequences;
        private int window;

        void start() {
            fault = 0;
            place = 0;
            heads = 0;
            blocks = 0;
            sequences = 0;
            window = 0;
        }

        /** Always false, so that what fails can answer with it. */
        boolean fail(int number, int where) {
            fault = number;
            place = where;
            return false;
        }
    }

    /** A STREAM, read from its END downwards. */
    private static final class Stream {
        private byte[] bytes;
        private int start;

        /** How many bits are left; below 0 when more were taken than there are. */
        private int left;

        Stream() {
            bytes = null;
            start = 0;
            left = 0;
        }

        /** False when there is no byte, or the last one is 0. */
        boolean open(Row row, int from, int to) {
            bytes = row.bytes;
            start = from;
            left = 0;
            if (from < 0 || from >= to || to > row.count) {
                return false;
            }
            int last = row.at(to - 1);
            if (last == 0) {
                return false;
            }
            left = 8 * (to - 1 - from) + 31 - Integer.numberOfLeadingZeros(last);
            return true;
        }

        /** The next n bits, at most 32, as a number; those below the first one are 0. */
        long take(int n) {
            int top = left;
            left -= n;
            if (top <= 0 || n <= 0 || bytes == null) {
                return 0;
            }
            int low = left > 0 ? left : 0;
            long value = 0;
            for (int k = start + (top - 1 >> 3); k >= start + (low >> 3); k--) {
                value = value << 8 | (k >= 0 && k < bytes.length ? bytes[k] & 255 : 0);
            }
            value = value >>> (low & 7) & (1L << top - low) - 1;
            return left < 0 ? value << -left : value;
        }
    }

    /** A SHARE and its places: what a state means and where it leads. */
    private static final class Share {
        private final int greatest;
        private final int last;
        private final int[] points;
        private final int[] numbers;
        private final int[] symbols;
        private final int[] bits;
        private final int[] bases;
        private int order;
        private Row row;
        private int bit;
        private int endBit;

        Share(int greatestOrder, int lastSymbol) {
            greatest = greatestOrder;
            last = lastSymbol;
            points = new int[lastSymbol + 1];
            numbers = new int[lastSymbol + 1];
            symbols = new int[1 << greatestOrder];
            bits = new int[1 << greatestOrder];
            bases = new int[1 << greatestOrder];
            order = 0;
            row = null;
            bit = 0;
            endBit = 0;
        }

        int symbolOf(int state) {
            return state >= 0 && state < symbols.length ? symbols[state] : 0;
        }

        int bitsOf(int state) {
            return state >= 0 && state < bits.length ? bits[state] : 0;
        }

        int baseOf(int state) {
            return state >= 0 && state < bases.length ? bases[state] : 0;
        }

        /** One place that takes no bits. */
        void setSingle(int symbol) {
            order = 0;
            symbols[0] = symbol;
            bits[0] = 0;
            bases[0] = 0;
        }

        void setPoints(int newOrder, int[] newPoints) {
            order = Math.min(newOrder, greatest);
            for (int s = 0; s <= last; s++) {
                points[s] = s < newPoints.length ? newPoints[s] : 0;
            }
            lay();
        }

        /** Takes a SHARE TOLD from a row: the index behind it, or WRONG. */
        int tell(Row from, int start, int end) {
            row = from;
            bit = 8 * start;
            endBit = 8 * end;
            int above = nextBits(4);
            if (above < 0 || above + 5 > greatest) {
                return WRONG;
            }
            order = above + 5;
            Arrays.fill(points, 0);
            int lacks = 1 << order;
            for (int symbol = 0; symbol <= last && lacks > 0; symbol++) {
                int told = nextPoints(lacks);
                if (told < -1) {
                    return WRONG;
                }
                points[symbol] = told;
                lacks -= told < 0 ? 1 : told;
                if (told == 0) {
                    symbol += nextNones();
                }
            }
            if (lacks > 0) {
                return WRONG;
            }
            lay();
            return (bit + 7) / 8;
        }

        /** The points of a symbol, or -2 when its bits lack. */
        private int nextPoints(int lacks) {
            int width = 31 - Integer.numberOfLeadingZeros(lacks + 1);
            int t = 1 << width;
            int m = 2 * t - 2 - lacks;
            int u = nextBits(width);
            if (u < 0 || u < m) {
                return u < 0 ? -2 : u - 1;
            }
            int upper = nextBits(1);
            if (upper < 0) {
                return -2;
            }
            u += upper * t;
            return u >= t ? u - m - 1 : u - 1;
        }

        /** How many more symbols have no points; above LAST when bits lack. */
        private int nextNones() {
            int none = 0;
            for (int k = 0; k <= last; k++) {
                int more = nextBits(2);
                if (more < 0) {
                    return last + 1;
                }
                none += more;
                if (more < 3) {
                    return none;
                }
            }
            return none;
        }

        /** A number of the next n bits, upwards, or -1 when they lack. */
        private int nextBits(int n) {
            if (row == null || n > endBit - bit) {
                return -1;
            }
            int value = 0;
            for (int k = 0; k < n; k++) {
                int at = bit >> 3;
                int eight = at >= 0 && at < row.count ? row.bytes[at] : 0;
                value |= (eight >> (bit & 7) & 1) << k;
                bit++;
            }
            return value;
        }

        /** Gives each place its symbol, and what follows from that. */
        private void lay() {
            int top = (1 << order) - 1;
            for (int s = 0; s <= last; s++) {
                if (points[s] < 0 && top >= 0) {
                    symbols[top] = s;
                    top--;
                }
            }
            int place = 0;
            for (int s = 0; s <= last; s++) {
                for (int k = 0; k < points[s]; k++) {
                    symbols[place] = s;
                    place = nextPlace(place, top);
                }
            }
            number();
        }

        /** The next place on the walk that is not above top: above it stand those with -1. */
        private int nextPlace(int place, int top) {
            int all = 1 << order;
            int step = (all >> 1) + (all >> 3) + 3;
            int next = place;
            for (int k = 0; k < all; k++) {
                next = next + step & all - 1;
                if (next <= top) {
                    return next;
                }
            }
            return place;
        }

        /** Numbers the places of each symbol, which tells where they lead. */
        private void number() {
            for (int s = 0; s <= last; s++) {
                numbers[s] = points[s] < 0 ? 1 : points[s];
            }
            int all = 1 << order;
            for (int place = 0; place < all; place++) {
                int s = symbols[place];
                int x = numbers[s];
                numbers[s]++;
                int b = order - (31 - Integer.numberOfLeadingZeros(x));
                bits[place] = b;
                bases[place] = (x << b) - all;
            }
        }
    }

    /** CODES, and the DESCRIPTION that tells them. */
    private static final class Codes {
        private final int[] weights;
        private final int[] lengths;
        private final int[] cells;
        private final Share share;
        private final Stream stream;
        private int order;
        private int count;

        Codes() {
            weights = new int[WEIGHTS_MOST + 1];
            lengths = new int[WEIGHTS_MOST + 1];
            cells = new int[1 << CODES_MOST_ORDER];
            share = new Share(WEIGHTS_ORDER, WEIGHTS_LAST);
            stream = new Stream();
            order = 0;
            count = 0;
        }

        /** The next symbol of a stream; more bits may be taken than it has. */
        int next(Stream from) {
            int cell = (int) from.take(order);
            int symbol = cell >= 0 && cell < cells.length ? cells[cell] : 0;
            from.left += order - lengths[symbol];
            return symbol;
        }

        /** Takes a DESCRIPTION from a row: the index behind it, or WRONG. */
        int tell(Row row, int start, int end) {
            if (start >= end) {
                return WRONG;
            }
            int x = row.at(start);
            int behind = start + 1 + (x > 127 ? (x - 126) / 2 : x);
            if (behind > end) {
                return WRONG;
            }
            if (x > 127) {
                takePlain(row, start + 1, x - 127);
            } else {
                int from = share.tell(row, start + 1, behind);
                if (from == WRONG || !stream.open(row, from, behind) || !takeCoded()) {
                    return WRONG;
                }
            }
            if (!complete()) {
                return WRONG;
            }
            lay();
            return behind;
        }

        private void takePlain(Row row, int from, int number) {
            count = 0;
            for (int k = 0; k < number; k++) {
                int two = row.at(from + k / 2);
                addWeight(k % 2 == 0 ? two >> 4 : two & 15);
            }
        }

        private boolean takeCoded() {
            if (stream.left < 2 * share.order) {
                return false;
            }
            count = 0;
            int now = (int) stream.take(share.order);
            int other = (int) stream.take(share.order);
            for (int k = 0; k < WEIGHTS_MOST; k++) {
                addWeight(share.symbolOf(now));
                if (stream.left < share.bitsOf(now)) {
                    return addWeight(share.symbolOf(other));
                }
                int next = share.baseOf(now) + (int) stream.take(share.bitsOf(now));
                now = other;
                other = next;
            }
            return false;
        }

        /** False when there would be too many, the one that is not told being kept in mind. */
        private boolean addWeight(int weight) {
            if (count >= WEIGHTS_MOST) {
                return false;
            }
            weights[count] = weight;
            count++;
            return true;
        }

        /** Adds the weight that is not told; false when there can be none. */
        private boolean complete() {
            int sum = 0;
            int ones = 0;
            for (int s = 0; s < count; s++) {
                sum += weights[s] > 0 ? 1 << weights[s] - 1 : 0;
                ones += weights[s] == 1 ? 1 : 0;
            }
            order = 32 - Integer.numberOfLeadingZeros(sum);
            if (sum == 0 || order > CODES_MOST_ORDER) {
                return false;
            }
            int lacks = (1 << order) - sum;
            if ((lacks & lacks - 1) != 0) {
                return false;
            }
            weights[count] = 32 - Integer.numberOfLeadingZeros(lacks);
            ones += weights[count] == 1 ? 1 : 0;
            count++;
            return ones >= 2;
        }

        private void lay() {
            int cell = 0;
            for (int weight = 1; weight <= order; weight++) {
                for (int s = 0; s < count; s++) {
                    if (weights[s] == weight) {
                        int behind = cell + (1 << weight - 1);
                        Arrays.fill(cells, cell, behind, s);
                        lengths[s] = order + 1 - weight;
                        cell = behind;
                    }
                }
            }
        }
    }

    /** The three LATEST distances. */
    private static final class Latest {
        private long first;
        private long second;
        private long third;

        Latest() {
            first = 1;
            second = 4;
            third = 8;
        }

        void set(long newFirst, long newSecond, long newThird) {
            first = newFirst;
            second = newSecond;
            third = newThird;
        }

        /** The distance that v means, which becomes the first. */
        long choose(long v, int literalLength) {
            long w = literalLength == 0 ? v + 1 : v;
            if (v > 3) {
                lead(v - 3);
            } else if (w == 2) {
                long was = first;
                first = second;
                second = was;
            } else if (w == 3) {
                lead(third);
            } else if (w == 4) {
                lead(first - 1);
            }
            return first;
        }

        private void lead(long distance) {
            third = second;
            second = first;
            first = distance;
        }
    }

    /** THE DICTIONARY; with none, its content is empty and its ID 0. */
    private static final class Dictionary {
        private final Row content;
        private final Latest latest;
        private long id;

        /** Whether frames begin with its codes, tables and distances. */
        private boolean tells;
        private Codes codes;
        private Share[] shares;

        /** What is being learned is told here, so that a fault leaves the rest as it was. */
        private Codes spareCodes;
        private Share[] spareShares;

        Dictionary() {
            content = new Row(IN_MOST);
            latest = new Latest();
            id = 0;
            tells = false;
            codes = new Codes();
            spareCodes = new Codes();
            shares = new Share[KINDS];
            spareShares = new Share[KINDS];
            for (int kind = 0; kind < KINDS; kind++) {
                shares[kind] = new Share(GREATEST_ORDERS[kind], LASTS[kind]);
                spareShares[kind] = new Share(GREATEST_ORDERS[kind], LASTS[kind]);
            }
        }

        void drop() {
            content.empty();
            id = 0;
            tells = false;
        }

        /** How many bytes of content there are now, or a fault below 0. */
        int takeFrom(Row row) {
            if (row.count >= 4 && row.number(0, 4) == DICTIONARY_MARK) {
                return takeTold(row);
            }
            id = 0;
            tells = false;
            return takeContent(row, 0);
        }

        private int takeContent(Row row, int from) {
            content.empty();
            content.putPart(row, from, row.count - from);
            return content.count;
        }

        private int takeTold(Row row) {
            if (row.count < 8) {
                return -1;
            }
            int at = spareCodes.tell(row, 8, row.count);
            if (at == WRONG) {
                return -2;
            }
            at = tellShare(DISTANCES, row, at);
            at = at == WRONG ? WRONG : tellShare(MATCH_LENGTHS, row, at);
            at = at == WRONG ? WRONG : tellShare(LITERAL_LENGTHS, row, at);
            if (at == WRONG) {
                return -3;
            }
            if (row.count - at < 12) {
                return -1;
            }
            for (int k = 0; k < 3; k++) {
                long distance = row.number(at + 4 * k, 4);
                if (distance == 0 || distance > row.count - at - 12) {
                    return -4;
                }
            }
            latest.set(row.number(at, 4), row.number(at + 4, 4), row.number(at + 8, 4));
            id = row.number(4, 4);
            tells = true;
            swapSpare();
            return takeContent(row, at + 12);
        }

        private int tellShare(int kind, Row row, int from) {
            return spareShares[kind].tell(row, from, row.count);
        }

        private void swapSpare() {
            Codes wereCodes = codes;
            codes = spareCodes;
            spareCodes = wereCodes;
            Share[] wereShares = shares;
            shares = spareShares;
            spareShares = wereShares;
        }
    }

    /** The content of all frames so far, and the bounds of the frame and the block being read. */
    private static final class Content {
        private final Row bytes;
        private final Row before;
        private int most;
        private int frameStart;
        private int blockStart;
        private long window;

        Content(Row dictionaryContent) {
            bytes = new Row(OUT_MOST);
            before = dictionaryContent;
            most = 0;
            frameStart = 0;
            blockStart = 0;
            window = 0;
        }

        void start(int newMost) {
            bytes.empty();
            most = newMost;
        }

        void startFrame() {
            frameStart = bytes.count;
        }

        void startBlock() {
            blockStart = bytes.count;
        }

        int ofFrame() {
            return bytes.count - frameStart;
        }

        int mostOfBlock() {
            return window < BLOCK_MOST ? (int) window : BLOCK_MOST;
        }

        boolean overMost(int more) {
            return more > most - bytes.count;
        }

        boolean overBlock(int more) {
            return more > mostOfBlock() - (bytes.count - blockStart);
        }

        boolean tooFar(long distance, int literals) {
            long soFar = (long) ofFrame() + literals;
            if (distance <= 0 || distance > soFar + before.count) {
                return true;
            }
            return distance <= soFar ? distance > window : soFar > window;
        }

        /** Copies n bytes from a distance that is not too far. */
        void copyBack(int distance, int n) {
            int lacks = distance - ofFrame();
            int ofBefore = lacks > 0 ? Math.min(lacks, n) : 0;
            bytes.putPart(before, before.count - lacks, ofBefore);
            bytes.putBack(distance, n - ofBefore);
        }

        /** THE WIDE SUM of the frame's content. */
        long wideSum() {
            int at = frameStart;
            long h = Q5;
            if (ofFrame() >= 32) {
                h = sumOfLanes();
                at += ofFrame() / 32 * 32;
            }
            h += ofFrame();
            for (; at <= bytes.count - 8; at += 8) {
                h = Long.rotateLeft(h ^ mixed(0, bytes.number(at, 8)), 27) * Q1 + Q4;
            }
            if (at <= bytes.count - 4) {
                h = Long.rotateLeft(h ^ bytes.number(at, 4) * Q1, 23) * Q2 + Q3;
                at += 4;
            }
            for (; at < bytes.count; at++) {
                h = Long.rotateLeft(h ^ bytes.at(at) * Q5, 11) * Q1;
            }
            h = (h ^ h >>> 33) * Q2;
            h = (h ^ h >>> 29) * Q3;
            return h ^ h >>> 32;
        }

        private long sumOfLanes() {
            long one = Q1 + Q2;
            long two = Q2;
            long three = 0;
            long four = -Q1;
            for (int at = frameStart; at <= bytes.count - 32; at += 32) {
                one = mixed(one, bytes.number(at, 8));
                two = mixed(two, bytes.number(at + 8, 8));
                three = mixed(three, bytes.number(at + 16, 8));
                four = mixed(four, bytes.number(at + 24, 8));
            }
            long h = Long.rotateLeft(one, 1) + Long.rotateLeft(two, 7)
                + Long.rotateLeft(three, 12) + Long.rotateLeft(four, 18);
            h = (h ^ mixed(0, one)) * Q1 + Q4;
            h = (h ^ mixed(0, two)) * Q1 + Q4;
            h = (h ^ mixed(0, three)) * Q1 + Q4;
            return (h ^ mixed(0, four)) * Q1 + Q4;
        }

        private static long mixed(long lane, long number) {
            return Long.rotateLeft(lane + number * Q2, 31) * Q1;
        }
    }

    /** Reads frames and spare bytes: marks, heads, blocks and what stands behind them. */
    private static final class FrameReader {
        private final Row in;
        private final Dictionary dictionary;
        private final Report report;
        private final Content content;
        private final Literals literals;
        private final Sequences sequences;
        private int place;
        private boolean inFrame;
        private boolean summed;
        private boolean sized;
        private long size;
        private int sizePlace;

        FrameReader(Row row, Dictionary words, Report told, Content made) {
            in = row;
            dictionary = words;
            report = told;
            content = made;
            literals = new Literals(row, told);
            sequences = new Sequences(row, told, made, literals);
            place = 0;
            inFrame = false;
            summed = false;
            sized = false;
            size = 0;
            sizePlace = 0;
        }

        void start(int most) {
            report.start();
            content.start(most);
            place = 0;
            inFrame = false;
        }

        boolean goesOn() {
            return report.fault == 0 && (inFrame || place < in.count);
        }

        boolean beginning() {
            if (lacks(4)) {
                return endsWithin();
            }
            long mark = in.number(place, 4);
            if (mark == FRAME_MARK) {
                place += 4;
                return head();
            }
            if ((mark & SPARE_MARK_BITS) == SPARE_MARK) {
                place += 4;
                return spare();
            }
            return report.fail(2, place);
        }

        private boolean lacks(long n) {
            return in.count - place < n;
        }

        private boolean endsWithin() {
            return report.fail(1, in.count);
        }

        private boolean spare() {
            if (lacks(4)) {
                return endsWithin();
            }
            long number = in.number(place, 4);
            place += 4;
            if (lacks(number)) {
                return endsWithin();
            }
            place += (int) number;
            return true;
        }

        private boolean head() {
            if (lacks(1)) {
                return endsWithin();
            }
            int head = in.at(place);
            report.heads++;
            if ((head & 8) != 0) {
                return report.fail(3, place);
            }
            place++;
            boolean single = (head & 32) != 0;
            summed = (head & 4) != 0;
            int idBytes = (head & 3) == 3 ? 4 : head & 3;
            if (!single && !window() || !idFits(idBytes) || !sizeTold(head >> 6, single)) {
                return false;
            }
            content.startFrame();
            literals.startFrame(dictionary);
            sequences.startFrame(dictionary);
            inFrame = true;
            return true;
        }

        private boolean window() {
            if (lacks(1)) {
                return endsWithin();
            }
            int e = in.at(place) >> 3;
            int m = in.at(place) & 7;
            place++;
            setWindow((1L << 10 + e) + (1L << 7 + e) * m);
            return true;
        }

        private void setWindow(long window) {
            content.window = window;
            report.window = window < INT_MOST ? (int) window : INT_MOST;
        }

        private boolean idFits(int bytes) {
            if (lacks(bytes)) {
                return endsWithin();
            }
            long id = in.number(place, bytes);
            if (id != 0 && id != dictionary.id) {
                return report.fail(4, place);
            }
            place += bytes;
            return true;
        }

        private boolean sizeTold(int f, boolean single) {
            int bytes = f > 0 ? 1 << f : single ? 1 : 0;
            if (lacks(bytes)) {
                return endsWithin();
            }
            sized = bytes > 0;
            sizePlace = place;
            size = in.number(place, bytes) + (bytes == 2 ? 256 : 0);
            place += bytes;
            if (single) {
                // Eight bytes have no sign: what is below 0 here is above all that a long holds.
                setWindow(size < 0 ? LONG_MOST : size);
            }
            return true;
        }

        boolean block() {
            if (lacks(3)) {
                return endsWithin();
            }
            int told = (int) in.number(place, 3);
            report.blocks++;
            int kind = told >> 1 & 3;
            int n = told >> 3;
            if (kind == 3) {
                return report.fail(5, place);
            }
            if (n > content.mostOfBlock()) {
                return report.fail(6, place);
            }
            int from = place + 3;
            int to = from + (kind == 1 ? 1 : n);
            if (to > in.count) {
                return endsWithin();
            }
            content.startBlock();
            boolean good = kind < 2 ? plain(kind, n)
                : literals.take(from, to, content.mostOfBlock())
                    && sequences.take(from, literals.behind, to);
            if (!good) {
                return false;
            }
            place = to;
            return (told & 1) == 0 || endFrame();
        }

        private boolean plain(int kind, int n) {
            if (content.overMost(n)) {
                return report.fail(7, place);
            }
            if (kind == 0) {
                content.bytes.putPart(in, place + 3, n);
            } else {
                content.bytes.putTimes(in.at(place + 3), n);
            }
            return true;
        }

        private boolean endFrame() {
            inFrame = false;
            if (summed) {
                if (lacks(4)) {
                    return endsWithin();
                }
                if (in.number(place, 4) != (content.wideSum() & 0xFFFFFFFFL)) {
                    return report.fail(8, place);
                }
                place += 4;
            }
            if (sized && size != content.ofFrame()) {
                return report.fail(9, sizePlace);
            }
            return true;
        }
    }

    /** The LITERALS of a block. */
    private static final class Literals {
        private final Row in;
        private final Report report;
        private final Stream stream;
        private final Codes told;

        /**
         * Those that cannot be kept for lack of room are never used: each one comes to a byte of
         * the content, which has no more room.
         */
        private final Row bytes;

        /** The CODES as they are, if there are any. */
        private Codes codes;
        private boolean hasCodes;
        private int count;
        private int used;

        /** The place behind the LITERALS. */
        private int behind;

        private int kind;
        private int form;
        private int start;

        Literals(Row row, Report faults) {
            in = row;
            report = faults;
            stream = new Stream();
            told = new Codes();
            bytes = new Row(OUT_MOST);
            codes = told;
            hasCodes = false;
            count = 0;
            used = 0;
            behind = 0;
            kind = 0;
            form = 0;
            start = 0;
        }

        void startFrame(Dictionary dictionary) {
            codes = dictionary.codes;
            hasCodes = dictionary.tells;
        }

        int left() {
            return count - used;
        }

        void moveTo(Row content, int n) {
            content.putPart(bytes, used, n);
            used += n;
        }

        boolean take(int from, int to, int most) {
            bytes.empty();
            used = 0;
            if (from >= to) {
                return report.fail(10, to);
            }
            kind = in.at(from) & 3;
            form = in.at(from) >> 2 & 3;
            if (!(kind < 2 ? plainHead(from, to) : codedHead(from, to))) {
                return false;
            }
            if (count > most || kind > 1 && form > 0 && count < 3 * quarter()) {
                return report.fail(11, from);
            }
            if (kind == 3 && !hasCodes) {
                return report.fail(13, from);
            }
            if (behind > to) {
                return report.fail(10, to);
            }
            if (kind < 2) {
                takePlain();
                return true;
            }
            if (kind == 2) {
                int next = told.tell(in, start, behind);
                if (next == WRONG) {
                    return report.fail(12, start);
                }
                codes = told;
                hasCodes = true;
                start = next;
            }
            return form == 0 ? takeStream(start, behind, count) : takeFour();
        }

        private int quarter() {
            return (count + 3) / 4;
        }

        private boolean plainHead(int from, int to) {
            int wide = form == 1 ? 2 : form == 3 ? 3 : 1;
            if (to - from < wide) {
                return report.fail(10, to);
            }
            count = (int) in.number(from, wide) >> (wide == 1 ? 3 : 4);
            start = from + wide;
            behind = start + (kind == 0 ? count : 1);
            return true;
        }

        private boolean codedHead(int from, int to) {
            int wide = form < 2 ? 3 : form + 2;
            if (to - from < wide) {
                return report.fail(10, to);
            }
            int bits = form < 2 ? 10 : 4 * form + 6;
            long number = in.number(from, wide) >> 4;
            count = (int) (number & (1 << bits) - 1);
            start = from + wide;
            behind = start + (int) (number >> bits);
            return true;
        }

        private void takePlain() {
            if (kind == 0) {
                bytes.putPart(in, start, count);
            } else {
                bytes.putTimes(in.at(start), count);
            }
        }

        private boolean takeFour() {
            int from = start + 6;
            if (from > behind) {
                return report.fail(14, start);
            }
            int first = from + (int) in.number(start, 2);
            int second = first + (int) in.number(start + 2, 2);
            int third = second + (int) in.number(start + 4, 2);
            if (third > behind) {
                return report.fail(14, start);
            }
            int n = quarter();
            return takeStream(from, first, n) && takeStream(first, second, n)
                && takeStream(second, third, n) && takeStream(third, behind, count - 3 * n);
        }

        private boolean takeStream(int from, int to, int n) {
            if (!stream.open(in, from, to)) {
                return report.fail(14, from);
            }
            // Each symbol takes a bit at least, so too many of them are soon found out.
            for (int k = 0; k < n && stream.left >= 0; k++) {
                bytes.put(codes.next(stream));
            }
            return stream.left == 0 || report.fail(14, from);
        }
    }

    /** The SEQUENCES of a block: their tables, and what they do. */
    private static final class Sequences {
        private final Row in;
        private final Report report;
        private final Content content;
        private final Literals literals;
        private final Stream stream;
        private final Latest latest;
        private final Share[] known;
        private final Share[] told;

        /** The TABLES as they are, where there are any. */
        private final Share[] tables;
        private final boolean[] hasTable;
        private final int[] states;

        Sequences(Row row, Report faults, Content made, Literals ready) {
            in = row;
            report = faults;
            content = made;
            literals = ready;
            stream = new Stream();
            latest = new Latest();
            known = new Share[KINDS];
            told = new Share[KINDS];
            tables = new Share[KINDS];
            hasTable = new boolean[KINDS];
            states = new int[KINDS];
            for (int kind = 0; kind < KINDS; kind++) {
                known[kind] = new Share(KNOWN_ORDERS[kind], LASTS[kind]);
                told[kind] = new Share(GREATEST_ORDERS[kind], LASTS[kind]);
                tables[kind] = known[kind];
                hasTable[kind] = false;
            }
            known[LITERAL_LENGTHS].setPoints(KNOWN_ORDERS[LITERAL_LENGTHS], KNOWN_LITERAL_LENGTHS);
            known[DISTANCES].setPoints(KNOWN_ORDERS[DISTANCES], KNOWN_DISTANCES);
            known[MATCH_LENGTHS].setPoints(KNOWN_ORDERS[MATCH_LENGTHS], KNOWN_MATCH_LENGTHS);
        }

        void startFrame(Dictionary dictionary) {
            for (int kind = 0; kind < KINDS; kind++) {
                tables[kind] = dictionary.shares[kind];
                hasTable[kind] = dictionary.tells;
            }
            if (dictionary.tells) {
                Latest first = dictionary.latest;
                latest.set(first.first, first.second, first.third);
            } else {
                latest.set(1, 4, 8);
            }
        }

        boolean take(int literalsPlace, int from, int to) {
            int x = in.at(from);
            int wide = x < 128 ? 1 : x < 255 ? 2 : 3;
            if (to - from < wide) {
                return report.fail(10, to);
            }
            int modes = from + wide;
            int number = x < 128 ? x
                : x < 255 ? 256 * (x - 128) + in.at(from + 1)
                : (int) in.number(from + 1, 2) + 32512;
            if (number == 0) {
                return modes < to ? report.fail(15, modes) : takeRest(literalsPlace);
            }
            if (modes >= to) {
                return report.fail(10, to);
            }
            if ((in.at(modes) & 3) != 0) {
                return report.fail(15, modes);
            }
            int start = modes + 1;
            for (int kind = 0; kind < KINDS && start != WRONG; kind++) {
                start = takeTable(kind, modes, start, to);
            }
            return start != WRONG && takeAll(number, start, to) && takeRest(start);
        }

        /** The place behind what tells the table, or WRONG, the fault being reported. */
        private int takeTable(int kind, int modes, int from, int to) {
            int mode = in.at(modes) >> 6 - 2 * kind & 3;
            int behind = from;
            if (mode == 0) {
                tables[kind] = known[kind];
            } else if (mode == 1) {
                if (from >= to) {
                    report.fail(10, to);
                    return WRONG;
                }
                behind = in.at(from) > LASTS[kind] ? WRONG : from + 1;
                told[kind].setSingle(in.at(from));
                tables[kind] = told[kind];
            } else if (mode == 2) {
                behind = told[kind].tell(in, from, to);
                tables[kind] = told[kind];
            } else if (!hasTable[kind]) {
                behind = WRONG;
            }
            hasTable[kind] = true;
            if (behind == WRONG) {
                report.fail(16, modes);
            }
            return behind;
        }

        private boolean takeAll(int number, int from, int to) {
            if (!stream.open(in, from, to)) {
                return report.fail(17, from);
            }
            for (int kind = 0; kind < KINDS; kind++) {
                states[kind] = (int) stream.take(tables[kind].order);
            }
            if (stream.left < 0) {
                return report.fail(17, from);
            }
            for (int k = 0; k < number; k++) {
                int fault = takeOne(k == number - 1);
                if (fault != 0) {
                    return report.fail(fault, from);
                }
                report.sequences++;
            }
            return stream.left == 0 || report.fail(17, from);
        }

        /** Does one sequence, or answers its fault. */
        private int takeOne(boolean atLast) {
            int literal = symbolOf(LITERAL_LENGTHS);
            int distant = symbolOf(DISTANCES);
            int match = symbolOf(MATCH_LENGTHS);
            long v = (1L << distant) + stream.take(distant);
            int matchLength = MATCH_FROM[match] + (int) stream.take(MATCH_MORE[match]);
            int literalLength = LITERAL_FROM[literal] + (int) stream.take(LITERAL_MORE[literal]);
            if (!atLast) {
                follow(LITERAL_LENGTHS);
                follow(MATCH_LENGTHS);
                follow(DISTANCES);
            }
            if (stream.left < 0) {
                return 17;
            }
            if (literalLength > literals.left()) {
                return 19;
            }
            long distance = latest.choose(v, literalLength);
            if (content.tooFar(distance, literalLength)) {
                return 18;
            }
            if (content.overBlock(literalLength + matchLength)) {
                return 20;
            }
            if (content.overMost(literalLength + matchLength)) {
                return 7;
            }
            literals.moveTo(content.bytes, literalLength);
            content.copyBack((int) distance, matchLength);
            return 0;
        }

        /** At most LAST, so that it can be an index of what symbols mean. */
        private int symbolOf(int kind) {
            int symbol = tables[kind].symbolOf(states[kind]);
            return symbol >= 0 && symbol <= LASTS[kind] ? symbol : 0;
        }

        private void follow(int kind) {
            int base = tables[kind].baseOf(states[kind]);
            states[kind] = base + (int) stream.take(tables[kind].bitsOf(states[kind]));
        }

        /** The LITERALS that are left stand for themselves. */
        private boolean takeRest(int faultPlace) {
            if (content.overBlock(literals.left())) {
                return report.fail(20, faultPlace);
            }
            if (content.overMost(literals.left())) {
                return report.fail(7, faultPlace);
            }
            literals.moveTo(content.bytes, literals.left());
            return true;
        }
    }
}
