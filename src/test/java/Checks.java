import java.nio.charset.StandardCharsets;

/** Counts the answers that are not as due, and prints each. */
final class Checks {
    private final String name;
    private int wrong = 0;
    private int asked = 0;

    Checks(String name) {
        this.name = name;
    }

    void due(String call, long got, long want) {
        asked++;
        if (got != want) {
            wrong++;
            System.out.println(name + ": " + call + " answered " + got + ", due is " + want);
        }
    }

    /** Ends the program with 1 if an answer was wrong. */
    void end() {
        System.out.println(name + ": " + asked + " answers, " + wrong + " wrong");
        if (wrong != 0) {
            System.exit(1);
        }
    }

    /** Types a text of signs 0 to 255, eight bytes a call; answers what the last call did. */
    static int type(PaperPays x, String text) {
        byte[] bytes = text.getBytes(StandardCharsets.ISO_8859_1);
        int answer = 0;
        for (int from = 0; from < bytes.length; from += 8) {
            int n = Math.min(8, bytes.length - from);
            answer = x.type(packed(bytes, from, n), n);
        }
        return answer;
    }

    static long packed(byte[] bytes, int from, int n) {
        long v = 0;
        for (int i = 0; i < n; i++) {
            v = v << 8 | bytes[from + i] & 0xff;
        }
        return v;
    }

    /** Reads a text as rules; what rules() answers. */
    static int rules(PaperPays x, String text) {
        x.clear();
        type(x, text);
        return x.rules();
    }

    /** A new object with rules that have to stand. */
    static PaperPays with(String text) {
        PaperPays x = new PaperPays();
        if (rules(x, text) < 0) {
            throw new IllegalStateException("rules don't stand: " + text);
        }
        return x;
    }
}
