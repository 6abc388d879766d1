import java.io.IOException;
import java.nio.file.Files;
import java.nio.file.Path;
import java.util.ArrayList;
import java.util.List;
import java.util.Random;

/** Whatever the bytes and arguments are, no call throws, and each answer is one that can be. */
public final class NothingThrownTest {
    private static final Check CHECK = new Check("NothingThrownTest");
    private static final Random RANDOM = new Random(20261115);
    private static final int ROUNDS = 40000;

    public static void main(String[] args) throws IOException {
        List<byte[]> frames = new ArrayList<>();
        List<byte[]> dictionaries = new ArrayList<>();
        for (String line : Files.readAllLines(Path.of("src/test/vectors.txt"))) {
            String[] words = line.split(" ");
            if (words[0].equals("read") && words[2].length() > 2 && words[2].length() < 2000) {
                frames.add(Make.hex(words[2]));
            } else if (words[0].equals("learn") && words[1].length() > 2) {
                dictionaries.add(Make.hex(words[1]));
            }
        }
        StateFrames x = new StateFrames();
        for (int round = 0; round < ROUNDS; round++) {
            if (round % 20 == 0) {
                x.clear();
                Check.put(x, changed(dictionaries.get(RANDOM.nextInt(dictionaries.size()))));
                int answer = x.learn();
                CHECK.due("learn of round " + round, answer >= -4 && answer <= 12000, true);
            }
            x.clear();
            Check.put(x, changed(frames.get(RANDOM.nextInt(frames.size()))));
            readOnce(x, "round " + round);
        }
        noise(x);
        CHECK.end();
    }

    private static void readOnce(StateFrames x, String what) {
        int size = x.size();
        int most = RANDOM.nextInt(4) == 0 ? RANDOM.nextInt(32769) : 32768;
        int answer = x.read(most);
        CHECK.due(what + ": answer", answer >= -20 && answer <= most, true);
        CHECK.due(what + ": size", x.size(), answer < 0 ? size : answer);
        CHECK.due(what + ": PLACE", x.about(0) >= 0 && x.about(0) <= 12000, true);
        CHECK.due(what + ": come", x.about(4) >= 0 && x.about(4) <= most, true);
    }

    private static byte[] changed(byte[] bytes) {
        byte[] made = bytes.clone();
        int times = RANDOM.nextInt(4);
        for (int k = 0; k < times; k++) {
            made[RANDOM.nextInt(made.length)] = (byte) RANDOM.nextInt(256);
        }
        return RANDOM.nextInt(6) == 0 ? Make.first(made, RANDOM.nextInt(made.length)) : made;
    }

    /** Calls at random, with arguments of all sizes. */
    private static void noise(StateFrames x) {
        for (int k = 0; k < 20000; k++) {
            int a = RANDOM.nextInt() >> RANDOM.nextInt(32);
            int b = RANDOM.nextInt() >> RANDOM.nextInt(32);
            switch (RANDOM.nextInt(9)) {
                case 0 -> x.write(RANDOM.nextLong(), a);
                case 1 -> x.again(a, b);
                case 2 -> x.clear();
                case 3 -> x.learn();
                case 4 -> x.forget();
                case 5 -> x.read(a);
                case 6 -> x.about(a);
                case 7 -> x.write(0x28B52FFD00002100L, 8);
                default -> CHECK.due("byteAt", x.byteAt(a) < 256, true);
            }
        }
    }
}
