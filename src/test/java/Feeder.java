/** Puts a text on the TAPE of an object, twenty bytes a call. */
final class Feeder {
    private Feeder() { }

    static int[] words(String text, int block) {
        int[] words = new int[5];
        for (int w = 0; w < 5; w++) {
            for (int b = 0; b < 4; b++) {
                int place = block * 20 + w * 4 + b;
                words[w] = words[w] << 8 | (place < text.length() ? text.charAt(place) & 255 : ' ');
            }
        }
        return words;
    }

    static int blocks(String text) {
        return (text.length() + 19) / 20;
    }

    /** The TAPE is empty ahead of it, and has the text alone behind it. */
    static void tape(TurnQueues x, String text) {
        for (int block = 0; block < blocks(text); block++) {
            int[] w = words(text, block);
            x.feed(w[0], w[1], w[2], w[3], w[4]);
        }
        x.end(text.length());
    }

    static int house(TurnQueues x, String text) {
        tape(x, text);
        return x.house();
    }

    static int walk(TurnQueues x, int version, String letters) {
        tape(x, letters);
        return x.walk(version);
    }

    static TurnQueues housed(String text) {
        TurnQueues x = new TurnQueues();
        house(x, text);
        return x;
    }

    static String out(TurnQueues x) {
        StringBuilder s = new StringBuilder();
        for (int i = 0; i < x.count(7); i++) {
            s.append((char) x.octet(i));
        }
        return s.toString();
    }
}
