import java.nio.charset.StandardCharsets;

/** What the tests share: answers that are due, counted, and texts typed in. */
final class Dues {
    private final String name;
    private int asked;
    private int wrong;

    Dues(String name) {
        this.name = name;
    }

    void due(String call, long got, long want) {
        asked++;
        if (got != want) {
            wrong++;
            if (wrong <= 40) {
                System.out.println(name + ": " + call + " answered " + got + ", due is " + want);
            }
        }
    }

    void holds(String what, boolean so) {
        due(what, so ? 1 : 0, 1);
    }

    boolean anyWrong() {
        return wrong > 0;
    }

    /** Ends the program: with 1, if an answer was not as due. */
    void close() {
        System.out.println(name + ": " + asked + " answers, " + wrong + " not as due");
        System.exit(wrong == 0 ? 0 : 1);
    }

    /** Types a text in pieces of 8 bytes at most: what the last call answered. */
    static int type(DropDealers x, String text) {
        byte[] bytes = text.getBytes(StandardCharsets.ISO_8859_1);
        int answer = x.count(5);
        for (int at = 0; at < bytes.length; at += 8) {
            int n = Math.min(8, bytes.length - at);
            long v = 0;
            for (int i = 0; i < n; i++) {
                v = v << 8 | bytes[at + i] & 0xFF;
            }
            answer = x.type(v, n);
        }
        return answer;
    }

    /** A new object that has read a text. */
    static DropDealers told(String text) {
        DropDealers x = new DropDealers();
        type(x, text);
        if (x.hill() < 0) {
            System.out.println("a text of the tests is not as told: " + text);
            System.exit(1);
        }
        return x;
    }
}
