import java.lang.reflect.Method;
import java.util.ArrayList;
import java.util.Arrays;
import java.util.Comparator;
import java.util.List;
import java.util.Random;

/** All promises: runs of calls, the same each time, on a DuskGates and on the model, which must agree. */
public final class ModelTest {
    private static final int RUNS = 1500;
    private static final int CALLS = 512;
    private static final Check CHECK = new Check("ModelTest");
    private static final String[] WORDS = {"wheel", "toll", "free", "good", "bad", "ban", "lift"};

    private final Random random;
    private final DuskGates x = new DuskGates();
    private final Model model = new Model();
    private final int days;
    private int calls;

    private ModelTest(long seed) {
        random = new Random(seed);
        days = random.nextBoolean() ? 30 : 1000;
    }

    public static void main(String[] args) throws Exception {
        List<Method> methods = new ArrayList<>();
        for (Method m : DuskGates.class.getDeclaredMethods()) {
            if (java.lang.reflect.Modifier.isPublic(m.getModifiers())) {
                methods.add(m);
            }
        }
        methods.sort(Comparator.comparing(Method::getName));
        for (int seed = 0; seed < RUNS; seed++) {
            new ModelTest(seed).run(methods);
        }
        CHECK.end();
    }

    private void run(List<Method> methods) throws Exception {
        // Of some calls there are more, so that runs differ in what they fill.
        int[] weights = random.ints(methods.size(), 1, 9).toArray();
        int sum = Arrays.stream(weights).sum();
        while (calls < CALLS) {
            int pick = random.nextInt(sum);
            int at = 0;
            while (pick >= weights[at]) {
                pick -= weights[at];
                at++;
            }
            Method m = methods.get(at);
            prepare(m.getName());
            call(m, arguments(m));
        }
    }

    private void call(Method m, Object... args) throws Exception {
        Method twin = Model.class.getDeclaredMethod(m.getName(), m.getParameterTypes());
        Object want = twin.invoke(model, args);
        Object got = m.invoke(x, args);
        CHECK.due(m.getName() + Arrays.toString(args), (int) got, (int) want);
        calls++;
    }

    private void same(String name, Object... args) throws Exception {
        Class<?>[] types = new Class<?>[args.length];
        Arrays.setAll(types, k -> args[k] instanceof Long ? long.class : int.class);
        call(DuskGates.class.getDeclaredMethod(name, types), args);
    }

    /** Lays what a call reads, most of the time with items that are as told. */
    private void prepare(String name) throws Exception {
        if (random.nextInt(8) == 0) {
            return;
        }
        switch (name) {
            case "cart" -> layItems(2, 9, 5, 100, 100, 100, 100, 100, 100, 100, 100);
            case "seal" -> {
                int given = random.nextInt(days);
                layItems(2, 7, 4, 4, 6, 3, 8, 1, 1);
                same("set", 0, 5, given);
                same("set", 0, 6, Math.min(999, given + random.nextInt(20)));
            }
            case "clerks" -> layItems(2, 2 * (1 + random.nextInt(20)), 4, random.nextBoolean() ? 1440 : 60);
            case "watch" -> layItems(1 + random.nextInt(2), 1 + random.nextInt(14), random.nextBoolean() ? 4096 : 64);
            case "laws" -> layText();
            case "breaches" -> same("lean", random.nextInt(12), random.nextInt(20), random.nextInt(20));
            case "brought" -> {
                int day = random.nextInt(30);
                same("guest", random.nextInt(12), random.nextInt(4), day, day + random.nextInt(4));
                same("fell", random.nextInt(4), day + random.nextInt(14));
            }
            default -> { }
        }
    }

    private void layItems(int lane, int n, int... bounds) throws Exception {
        same("sheet", 0, lane, n);
        for (int i = 0; i < n; i++) {
            int bound = bounds[i % bounds.length];
            int v = random.nextInt(300) == 0 ? bound : random.nextInt(bound);
            same("set", 0, i, v);
        }
    }

    private void layText() throws Exception {
        StringBuilder text = new StringBuilder();
        int sections = random.nextInt(4);
        for (int s = 0; s < sections; s++) {
            text.append("from ").append(random.nextInt(days));
            int laws = 1 + random.nextInt(4);
            for (int k = 0; k < laws; k++) {
                String word = WORDS[random.nextInt(WORDS.length)];
                boolean two = word.equals("toll") || word.equals("free");
                text.append(random.nextBoolean() ? " " : " \n").append(word).append(' ');
                text.append(random.nextInt(word.equals("wheel") ? 1000 : 8));
                if (two) {
                    text.append(' ').append(random.nextInt(random.nextBoolean() ? 1000 : 60));
                }
            }
            text.append(random.nextBoolean() ? ";" : " ; ");
        }
        if (random.nextInt(3) == 0 && text.length() > 0) {
            spoil(text);
        }
        for (int at = 0; at < text.length(); at += 8) {
            int n = Math.min(8, text.length() - at);
            long w = random.nextLong();
            for (int k = 0; k < n; k++) {
                w = w << 8 | text.charAt(at + k);
            }
            same("feed", w, n);
        }
    }

    private void spoil(StringBuilder text) {
        int at = random.nextInt(text.length());
        switch (random.nextInt(3)) {
            case 0 -> text.deleteCharAt(at);
            case 1 -> text.insert(at, " ;09azA-".charAt(random.nextInt(8)));
            default -> text.setCharAt(at, " ;09az\u00ff\n".charAt(random.nextInt(8)));
        }
    }

    private Object[] arguments(Method m) {
        Class<?>[] types = m.getParameterTypes();
        Object[] args = new Object[types.length];
        for (int k = 0; k < types.length; k++) {
            args[k] = types[k] == long.class ? (Object) random.nextLong() : (Object) argument(m.getName(), k);
        }
        return args;
    }

    private int argument(String name, int k) {
        int chance = random.nextInt(60);
        if (chance == 0) {
            int[] odd = {-1, Model.NONE, Model.BAD, Integer.MIN_VALUE, Integer.MAX_VALUE, 1440, 1441, 1000, 100001,
                64, 65, 61, 12, 8, 9, 16};
            return odd[random.nextInt(odd.length)];
        }
        int bound = bound(name, k);
        if (chance == 1) {
            return bound;
        }
        boolean gateOrNone = (name + k).equals("owed1") || (name + k).equals("amiss0") || (name + k).equals("road1");
        if (gateOrNone && random.nextInt(4) == 0) {
            return Model.NONE;
        }
        return random.nextInt(bound);
    }

    /** Numbers below this are for the most part as told. */
    private int bound(String name, int k) {
        return switch (name + k) {
            case "sheet0", "set0", "copy0", "copy2", "drop0" -> 3;
            case "cart0", "seal0", "clerks0", "watch0", "cart1", "seal1", "clerks1", "watch1" -> 1 + random.nextInt(2);
            case "sheet1", "agree0", "brought0" -> 3;
            case "sheet2" -> 66;
            case "set1", "copy1", "copy3", "copy4" -> 8;
            case "set2" -> 100000;
            case "bell0", "part0", "stands0", "owed1", "pass2", "amiss0", "lets2" -> 9;
            case "bell1" -> 700;
            case "bell2" -> 1441;
            case "part1" -> 301;
            case "stands1", "stands2", "dusk0", "dusk1" -> 1000;
            case "feed1" -> 9;
            case "holds0", "owed2", "pass3", "amiss1", "sick1", "day0", "lets1", "fell1", "guest2" -> days;
            case "amiss2", "sick2", "guest3" -> 1000;
            case "holds1" -> 52;
            case "owed0", "pass0" -> Math.max(1, model.count(2));
            case "pass1", "ask1" -> 2;
            case "pass4", "lets3", "dusk2" -> 1440;
            case "pass5" -> random.nextBoolean() ? 100001 : 300;
            case "road0", "road1", "sick0", "guest1", "fell0" -> 8;
            case "road2", "dusk3", "clerks3" -> 61;
            case "canbe0" -> 5;
            case "lets0", "kind0", "as0", "ask0" -> Math.max(1, model.count(4));
            case "clerks2" -> 21;
            case "clerks4", "count0" -> 9;
            case "clerks5", "as1" -> 5;
            case "guest0", "high0", "lean0" -> 12;
            case "high1" -> random.nextBoolean() ? 100 : 20;
            case "lean1", "lean2" -> 100;
            case "watch2" -> 13;
            case "trace0" -> 17;
            default -> throw new IllegalArgumentException(name + k);
        };
    }
}
