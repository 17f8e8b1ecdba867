import java.lang.reflect.Method;
import java.nio.charset.StandardCharsets;
import java.util.HashMap;
import java.util.Map;

/** Calls on one new DuskGates, told as texts such as "bell(0, 360, 1080)"; NONE, BAD, MAX and MIN are numbers. */
final class Run {
    static final int NONE = DuskGates.NONE, BAD = DuskGates.BAD, FULL = DuskGates.FULL;
    static final int NULL = -1000011, PLACE = -1000012, KIND = -1000013, SIZE = -1000014, STORE = -1000015;

    private static final Map<String, Method> METHODS = new HashMap<>();
    private static final int LONGEST = 512;

    static {
        for (Method m : DuskGates.class.getMethods()) {
            if (m.getDeclaringClass() == DuskGates.class) {
                METHODS.put(m.getName(), m);
            }
        }
    }

    private final DuskGates x = new DuskGates();
    private final Check check;
    private final String sentence;
    private int calls;

    /** The sentence is the one of the document that the run is for. */
    Run(Check check, String sentence) {
        this.check = check;
        this.sentence = sentence;
    }

    int say(String call) {
        int open = call.indexOf('(');
        Method m = METHODS.get(call.substring(0, open));
        String inside = call.substring(open + 1, call.length() - 1).trim();
        String[] told = inside.isEmpty() ? new String[0] : inside.split(",");
        Object[] args = new Object[told.length];
        for (int k = 0; k < told.length; k++) {
            long v = number(told[k].trim());
            args[k] = m.getParameterTypes()[k] == long.class ? (Object) v : (Object) (int) v;
        }
        calls++;
        if (calls > LONGEST) {
            throw new IllegalStateException("more than 512 calls: " + sentence);
        }
        try {
            return (int) m.invoke(x, args);
        } catch (ReflectiveOperationException e) {
            throw new IllegalStateException(call + " of " + sentence, e);
        }
    }

    private static long number(String told) {
        return switch (told) {
            case "NONE" -> NONE;
            case "BAD" -> BAD;
            case "MAX" -> Integer.MAX_VALUE;
            case "MIN" -> Integer.MIN_VALUE;
            default -> Long.parseLong(told);
        };
    }

    Run due(String call, int want) {
        check.due("[" + sentence + "] " + call, say(call), want);
        return this;
    }

    Run dueAll(int want, String... all) {
        for (String call : all) {
            due(call, want);
        }
        return this;
    }

    /** Calls whose answers are tested elsewhere. */
    Run then(String... all) {
        for (String call : all) {
            say(call);
        }
        return this;
    }

    /** A SHEET of ints with these ITEMS. */
    Run lay(int sheet, int... items) {
        return lay(sheet, 2, items);
    }

    private Run lay(int sheet, int lane, int[] items) {
        say("sheet(" + sheet + ", " + lane + ", " + items.length + ")");
        for (int i = 0; i < items.length; i++) {
            if (items[i] != 0) {
                say("set(" + sheet + ", " + i + ", " + items[i] + ")");
            }
        }
        return this;
    }

    Run layShorts(int sheet, int... items) {
        return lay(sheet, 1, items);
    }

    /** Feeds a text, eight bytes at a time. */
    Run text(String text) {
        byte[] bytes = text.getBytes(StandardCharsets.ISO_8859_1);
        for (int at = 0; at < bytes.length; at += 8) {
            int n = Math.min(8, bytes.length - at);
            long w = 0;
            for (int k = 0; k < n; k++) {
                w = w << 8 | bytes[at + k] & 255;
            }
            say("feed(" + w + ", " + n + ")");
        }
        return this;
    }

    /** A text that is read: how many laws there are then. */
    Run laws(String text, int want) {
        return text(text).due("laws()", want);
    }

    /** A text with a FAULT of this number at this place. */
    Run fault(String text, int place, int number) {
        text(text);
        check.due("[" + sentence + "] laws() of '" + text + "'", say("laws()"), -1000100 - place);
        check.due("[" + sentence + "] fault() of '" + text + "'", say("fault()"), number);
        return this;
    }

    Run cart(int... items) {
        return lay(7, items).then("cart(7, 0)");
    }

    Run pass(int... items) {
        return lay(7, items).then("seal(7, 0)");
    }
}
