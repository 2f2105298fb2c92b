import java.nio.charset.StandardCharsets;

/** Texts on their way to an object and back. */
final class Tapes {
    private Tapes() {
    }

    /** Five numbers for feed: twenty bytes of a text from a place on, blanks behind its end. */
    static int[] fed(String text, int from) {
        byte[] bytes = text.getBytes(StandardCharsets.ISO_8859_1);
        int[] words = new int[5];
        for (int i = 0; i < 20; i++) {
            int sign = from + i < bytes.length ? bytes[from + i] & 255 : ' ';
            words[i / 4] = words[i / 4] << 8 | sign;
        }
        return words;
    }

    static void put(LampPresses x, String text) {
        for (int from = 0; from < text.length(); from += 20) {
            int[] w = fed(text, from);
            x.feed(w[0], w[1], w[2], w[3], w[4]);
        }
        x.back((20 - text.length() % 20) % 20);
    }

    static int told(LampPresses x, String text) {
        put(x, text);
        return x.text();
    }

    static LampPresses of(String text) {
        LampPresses x = new LampPresses();
        Check.due("text() of " + text, told(x, text) >= 0, true);
        return x;
    }

    static String spelled(LampPresses x) {
        StringBuilder all = new StringBuilder();
        for (int i = 0; i < x.spell(LampPresses.NONE); i++) {
            all.append((char) x.spell(i));
        }
        return all.toString();
    }

    static String reported(LampPresses x) {
        StringBuilder all = new StringBuilder();
        for (int i = 0; i < x.report(LampPresses.NONE); i++) {
            all.append((char) x.report(i));
        }
        return all.toString();
    }
}
