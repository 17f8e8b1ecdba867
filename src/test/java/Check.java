import java.nio.charset.StandardCharsets;

/** Counts answers that are not as due, and what several tests do to a DuskGates. */
final class Check {
    static final int NULL = -1000011, PLACE = -1000012, KIND = -1000013, SIZE = -1000014, STORE = -1000015;

    private final String name;
    private int right;
    private int wrong;

    Check(String name) {
        this.name = name;
    }

    void due(String call, long got, long want) {
        if (got == want) {
            right++;
        } else {
            wrong++;
            System.out.println(name + ": " + call + " answered " + got + ", due is " + want);
        }
    }

    void end() {
        System.out.println(name + ": " + right + " as due, " + wrong + " not");
        if (wrong != 0 || right == 0) {
            System.exit(1);
        }
    }

    /** Lays a sheet of ints with these items. */
    static void lay(DuskGates x, int sheet, int... items) {
        x.sheet(sheet, 2, items.length);
        for (int i = 0; i < items.length; i++) {
            x.set(sheet, i, items[i]);
        }
    }

    /** Feeds a text, eight bytes at a time: the last answer. */
    static int feed(DuskGates x, String text) {
        byte[] bytes = text.getBytes(StandardCharsets.ISO_8859_1);
        int answer = 0;
        for (int at = 0; at < bytes.length; at += 8) {
            int n = Math.min(8, bytes.length - at);
            long w = 0;
            for (int k = 0; k < n; k++) {
                w = w << 8 | bytes[at + k] & 255;
            }
            answer = x.feed(w, n);
        }
        return answer;
    }

    static int laws(DuskGates x, String text) {
        feed(x, text);
        return x.laws();
    }

    static int cart(DuskGates x, int... items) {
        lay(x, 7, items);
        return x.cart(7, 0);
    }

    static int seal(DuskGates x, int... items) {
        lay(x, 7, items);
        return x.seal(7, 0);
    }
}
