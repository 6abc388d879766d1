/**
 * Counts the answers that are not as due, and puts bytes into an object under test.
 *
 * <p>A test of a sentence of the document begins with its words, so that a failure tells which
 * promise is broken.
 */
final class Check {
    private final String name;
    private String sentence = null;
    private int sentences = 0;
    private int askedBefore = 0;
    private int asked = 0;
    private int wrong = 0;

    Check(String name) {
        this.name = name;
    }

    /** Begins the test of these words of the document. */
    void sentence(String words) {
        endSentence();
        sentence = words;
        sentences++;
        askedBefore = asked;
    }

    /** A sentence that nothing is asked of would have no test. */
    private void endSentence() {
        if (sentence != null && asked == askedBefore) {
            fail("nothing was asked");
        }
    }

    void due(String what, long got, long want) {
        asked++;
        if (got != want) {
            fail(what + " answered " + got + ", due is " + want);
        }
    }

    private void fail(String how) {
        wrong++;
        System.out.println(name + ": " + (sentence == null ? "" : "\"" + sentence + "\": ") + how);
    }

    void due(String what, boolean got, boolean want) {
        due(what, got ? 1 : 0, want ? 1 : 0);
    }

    /** Reads bytes on an object: the answer, and about(0). */
    void dueRead(String what, StateFrames x, byte[] bytes, int most, int answer, int place) {
        x.clear();
        put(x, bytes);
        due(what + ": read", x.read(most), answer);
        due(what + ": PLACE", x.about(0), place);
    }

    /** Reads bytes on a new object: a fault's number and its place. */
    void dueFault(String what, byte[] bytes, int fault, int place) {
        dueRead(what, new StateFrames(), bytes, 32768, -fault, place);
    }

    /** Reads bytes on an object, which must come to this content. */
    void dueContent(String what, StateFrames x, byte[] bytes, byte[] content) {
        dueRead(what, x, bytes, 32768, content.length, bytes.length);
        dueOut(what, x, content);
    }

    void dueContent(String what, byte[] bytes, byte[] content) {
        dueContent(what, new StateFrames(), bytes, content);
    }

    void dueOut(String what, StateFrames x, byte[] content) {
        due(what + ": size", x.size(), content.length);
        int differ = -1;
        for (int k = content.length - 1; k >= 0; k--) {
            if (x.byteAt(k) != (content[k] & 255)) {
                differ = k;
            }
        }
        due(what + ": first byte that differs", differ, -1);
        due(what + ": byte behind the last", x.byteAt(content.length), -1);
    }

    static void put(StateFrames x, byte[] bytes) {
        for (int at = 0; at < bytes.length; at += 8) {
            int n = Math.min(8, bytes.length - at);
            long eight = 0;
            for (int k = 0; k < 8; k++) {
                eight = eight << 8 | (k < n ? bytes[at + k] & 255 : 0x5A);
            }
            if (!x.write(eight, n)) {
                throw new IllegalStateException("a test has too many bytes");
            }
        }
    }

    void end() {
        endSentence();
        String of = sentences == 0 ? "" : sentences + " sentences, ";
        System.out.println(name + ": " + of + asked + " answers, " + wrong + " not as due");
        if (wrong != 0) {
            System.exit(1);
        }
    }
}
