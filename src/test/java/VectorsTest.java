import java.io.IOException;
import java.nio.file.Files;
import java.nio.file.Path;
import java.util.zip.CRC32;

/**
 * Promises 5 to 10: dictionaries and frames of src/test/vectors.txt, each with the answers due.
 *
 * <p>"learn BYTES answer content ID", "forget", "read MOST BYTES answer about(0) .. about(5) CRC-32
 * of OUT", one behind the other on one object; "-" stands for no bytes.
 */
public final class VectorsTest {
    private static final Check CHECK = new Check("VectorsTest");
    private static final StateFrames X = new StateFrames();

    public static void main(String[] args) throws IOException {
        int line = 0;
        for (String text : Files.readAllLines(Path.of("src/test/vectors.txt"))) {
            line++;
            String[] words = text.split(" ");
            if (words[0].equals("learn")) {
                learn("line " + line, words);
            } else if (words[0].equals("forget")) {
                X.forget();
            } else if (words[0].equals("read")) {
                read("line " + line, words);
            }
        }
        CHECK.due("lines", line > 500, true);
        CHECK.end();
    }

    private static void fill(String word) {
        X.clear();
        Check.put(X, word.equals("-") ? new byte[0] : Make.hex(word));
    }

    private static void learn(String what, String[] words) {
        fill(words[1]);
        CHECK.due(what + ": learn", X.learn(), Integer.parseInt(words[2]));
        CHECK.due(what + ": content", X.about(6), Integer.parseInt(words[3]));
        CHECK.due(what + ": ID", X.about(7), Integer.parseInt(words[4]));
    }

    private static void read(String what, String[] words) {
        long before = sum();
        int size = X.size();
        fill(words[2]);
        int answer = X.read(Integer.parseInt(words[1]));
        CHECK.due(what + ": read", answer, Integer.parseInt(words[3]));
        for (int k = 0; k < 6; k++) {
            CHECK.due(what + ": about " + k, X.about(k), Integer.parseInt(words[4 + k]));
        }
        CHECK.due(what + ": OUT", sum(), answer < 0 ? before : Long.parseLong(words[10]));
        CHECK.due(what + ": size", X.size(), answer < 0 ? size : answer);
    }

    private static long sum() {
        CRC32 sum = new CRC32();
        for (int k = 0; k < X.size(); k++) {
            sum.update(X.byteAt(k));
        }
        return sum.getValue();
    }
}
