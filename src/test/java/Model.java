import java.util.ArrayList;
import java.util.Arrays;
import java.util.Comparator;
import java.util.HashSet;
import java.util.List;
import java.util.PriorityQueue;
import java.util.Set;
import java.util.TreeMap;
import java.util.regex.Matcher;
import java.util.regex.Pattern;
import java.util.stream.IntStream;

/** The document told a second time, with the Java library and in other ways than DuskGates does. */
final class Model {
    static final int NONE = -1000000, BAD = -1000001, FULL = -1000003;

    private record Sheet(int lane, int[] items) { }
    private record Law(int day, int topic, int value) { }
    private record Passing(int cart, int in, int gate, int day, int minute, int paid) { }
    private record Stay(int who, int where, int from, int to) { }
    private record House(int length, int inside, int outside) { }

    private final Sheet[] sheets = new Sheet[8];
    private final int[][] gates = new int[9][];
    private final StringBuilder tape = new StringBuilder();
    private final List<Law> laws = new ArrayList<>();
    private int fault;
    private final List<int[]> carts = new ArrayList<>();
    private final List<Passing> passings = new ArrayList<>();
    private final int[][] roads = new int[9][9];
    private final List<Stay> sick = new ArrayList<>();
    private final List<int[]> passes = new ArrayList<>();
    private final List<Stay> guests = new ArrayList<>();
    private final TreeMap<Integer, Integer> cases = new TreeMap<>();
    private final int[] heights = new int[12];
    private final List<House> houses = new ArrayList<>();
    private int theDay;
    private final List<Integer> trace = new ArrayList<>();
    private int status;

    Model() {
        Arrays.setAll(gates, g -> new int[] {360, 1080, 100, 0, 0});
        for (int[] road : roads) {
            Arrays.fill(road, 5);
        }
        Arrays.fill(heights, 10);
    }

    private static boolean in(int v, int least, int most) {
        return v >= least && v <= most;
    }

    private int finding(int n) {
        status = n;
        return -1000010 - n;
    }

    private int ok(int answer) {
        status = 0;
        return answer;
    }

    int sheet(int s, int lane, int n) {
        if (!in(s, 0, 7) || !in(lane, 0, 2) || n > 64) return BAD;
        if (n < 0) return finding(4);
        sheets[s] = new Sheet(lane, new int[n]);
        return ok(n);
    }

    int set(int s, int i, int v) {
        if (!in(s, 0, 7)) return BAD;
        if (sheets[s] == null) return finding(1);
        int[] items = sheets[s].items;
        if (!in(i, 0, items.length - 1)) return finding(2);
        int away = new int[] {24, 16, 0}[sheets[s].lane];
        items[i] = v << away >> away;
        return ok(items[i]);
    }

    int copy(int a, int i, int b, int j, int n) {
        if (!in(a, 0, 7) || !in(b, 0, 7)) return BAD;
        if (sheets[a] == null || sheets[b] == null) return finding(1);
        if (sheets[a].lane != sheets[b].lane) return finding(5);
        if (i < 0 || j < 0 || n < 0 || (long) i + n > sheets[a].items.length
                || (long) j + n > sheets[b].items.length) return finding(2);
        int[] ahead = sheets[a].items.clone();
        for (int k = 0; k < n; k++) sheets[b].items[j + k] = ahead[i + k];
        return ok(n);
    }

    int drop(int s) {
        if (!in(s, 0, 7)) return BAD;
        if (sheets[s] == null) return finding(1);
        int had = sheets[s].items.length;
        sheets[s] = null;
        return ok(had);
    }

    int bell(int g, int opens, int shuts) {
        if (!in(g, 0, 8) || !in(opens, 0, 1440) || !in(shuts, 0, 1440) || shuts <= opens) return BAD;
        gates[g][0] = opens;
        gates[g][1] = shuts;
        return 1;
    }

    int part(int g, int v) {
        if (!in(g, 0, 8) || !in(v, 1, 300)) return BAD;
        int was = gates[g][2];
        gates[g][2] = v;
        return was;
    }

    int stands(int g, int x, int y) {
        if (!in(g, 0, 8) || !in(x, 0, 999) || !in(y, 0, 999)) return BAD;
        gates[g][3] = x;
        gates[g][4] = y;
        return 1;
    }

    int feed(long w, int n) {
        if (!in(n, 1, 8)) return BAD;
        if (tape.length() + n > 400) return FULL;
        for (int k = 1; k <= n; k++) tape.append((char) (w >> 8 * (n - k) & 255));
        return tape.length();
    }

    private record Token(int place, String text) { }

    private static final class Fault extends RuntimeException {
        private static final long serialVersionUID = 1;
        final int number;
        final int place;

        Fault(int number, Token token) {
            super(null, null, false, false);
            this.number = number;
            this.place = token.place;
        }
    }

    int laws() {
        List<Token> tokens = new ArrayList<>();
        Matcher m = Pattern.compile("[a-z]+|[0-9]+|[^ \n]").matcher(tape);
        while (m.find()) tokens.add(new Token(m.start(), m.group()));
        Token end = new Token(tape.length(), "");
        tape.setLength(0);
        List<Law> come = new ArrayList<>();
        try {
            int at = 0;
            while (at < tokens.size()) at = section(tokens, at, end, come);
        } catch (Fault f) {
            fault = f.number;
            return -1000100 - f.place;
        }
        laws.addAll(come);
        return laws.size();
    }

    private static Token token(List<Token> tokens, int at, Token end) {
        return at < tokens.size() ? tokens.get(at) : end;
    }

    private static int number(Token t, int most) {
        if (!t.text.matches("[0-9]{1,4}")) throw new Fault(1, t);
        int v = Integer.parseInt(t.text);
        if (v > most) throw new Fault(2, t);
        return v;
    }

    private int section(List<Token> tokens, int start, Token end, List<Law> come) {
        int at = start;
        if (!token(tokens, at, end).text.equals("from")) throw new Fault(1, token(tokens, at, end));
        int day = number(token(tokens, at + 1, end), 999);
        at += 2;
        do {
            Token word = token(tokens, at, end);
            if (!word.text.matches("wheel|toll|free|good|bad|ban|lift")) throw new Fault(1, word);
            if (laws.size() + come.size() == 30) throw new Fault(3, word);
            Token a = token(tokens, at + 1, end);
            Token b = token(tokens, at + 2, end);
            at += 2;
            switch (word.text) {
                case "wheel" -> come.add(new Law(day, 0, number(a, 999)));
                case "toll", "free" -> {
                    int ware = number(a, 7);
                    come.add(new Law(day, (word.text.equals("toll") ? 10 : 20) + ware, number(b, 999)));
                    at++;
                }
                case "good" -> come.add(new Law(day, 30 + number(a, 7), 1));
                case "bad" -> come.add(new Law(day, 30 + number(a, 7), 0));
                case "ban" -> come.add(new Law(day, 40 + number(a, 11), 1));
                default -> come.add(new Law(day, 40 + number(a, 11), 0));
            }
        } while (!token(tokens, at, end).text.equals(";"));
        return at + 1;
    }

    int fault() {
        return fault;
    }

    int holds(int day, int what) {
        boolean topic = what == 0 || in(what, 10, 17) || in(what, 20, 27) || in(what, 30, 37) || in(what, 40, 51);
        return in(day, 0, 999) && topic ? told(day, what) : BAD;
    }

    private int told(int day, int topic) {
        // A stable sort keeps those of one day as they were told.
        List<Law> of = laws.stream().filter(l -> l.topic == topic && l.day <= day)
                .sorted(Comparator.comparingInt(Law::day)).toList();
        return of.isEmpty() ? (in(topic, 30, 37) ? 1 : 0) : of.get(of.size() - 1).value;
    }

    private int[] items(int s, int i, int n) {
        return Arrays.copyOfRange(sheets[s].items, i, i + n);
    }

    private boolean lacks(int s, int i, int n) {
        return i < 0 || (long) i + n > sheets[s].items.length;
    }

    int cart(int s, int i) {
        if (!in(s, 0, 7)) return BAD;
        if (carts.size() == 16) return FULL;
        if (sheets[s] == null) return finding(1);
        if (lacks(s, i, 9)) return finding(2);
        int[] load = items(s, i, 9);
        if (load[0] > 4 || Arrays.stream(load).anyMatch(v -> !in(v, 0, 99))) return BAD;
        carts.add(load);
        return ok(carts.size() - 1);
    }

    private int toll(int cart, int gate, int day) {
        int[] load = carts.get(cart);
        long sum = (long) load[0] * told(day, 0);
        for (int w = 0; w < 8; w++) {
            boolean free = load[1 + w] <= told(day, 20 + w);
            sum += free ? 0 : (long) load[1 + w] * told(day, 10 + w);
        }
        return (int) (sum * gates[gate][2] / 100);
    }

    int owed(int cart, int gate, int day) {
        if (!in(cart, 0, carts.size() - 1) || gate != NONE && !in(gate, 0, 8) || !in(day, 0, 999)) return BAD;
        if (gate != NONE) return toll(cart, gate, day);
        return IntStream.range(0, 9).boxed().min(Comparator.comparingInt(g -> toll(cart, g, day))).get();
    }

    int pass(int cart, int way, int gate, int day, int minute, int paid) {
        if (!in(cart, 0, carts.size() - 1) || !in(way, 0, 1) || !in(gate, 0, 8) || !in(day, 0, 999)
                || !in(minute, 0, 1439) || !in(paid, 0, 100000)) return BAD;
        if (passings.size() == 60) return FULL;
        passings.add(new Passing(cart, way, gate, day, minute, paid));
        return passings.size();
    }

    private boolean open(int gate, int minute) {
        return gates[gate][0] <= minute && minute < gates[gate][1];
    }

    int agree(int what) {
        Set<Integer> inside = new HashSet<>();
        int[] more = new int[16];
        int wrong = 0;
        List<Passing> sorted = new ArrayList<>(passings);
        sorted.sort(Comparator.comparingInt(Passing::day).thenComparingInt(Passing::minute));
        for (Passing p : sorted) {
            boolean changed = p.in == 1 ? inside.add(p.cart) : inside.remove(p.cart);
            if (!changed || !open(p.gate, p.minute)) wrong++;
            more[p.cart] += p.in == 1 ? 1 : -1;
        }
        return switch (what) {
            case 0 -> wrong;
            case 1 -> inside.size();
            case 2 -> (int) Arrays.stream(more).filter(v -> v < 0).count();
            default -> BAD;
        };
    }

    int amiss(int gate, int from, int to) {
        if (gate != NONE && !in(gate, 0, 8) || !in(from, 0, 999) || !in(to, from, 999)) return BAD;
        return passings.stream().filter(p -> p.in == 1 && (gate == NONE || p.gate == gate) && in(p.day, from, to))
                .mapToInt(p -> toll(p.cart, p.gate, p.day) - p.paid).sum();
    }

    int road(int a, int b, int days) {
        int to = b == NONE ? 8 : b;
        if (!in(a, 0, 7) || b != NONE && !in(b, 0, 7) || a == b || !in(days, 1, 60)) return BAD;
        int was = roads[a][to];
        roads[a][to] = days;
        roads[to][a] = days;
        return was;
    }

    int sick(int town, int from, int to) {
        if (!in(town, 0, 7) || !in(from, 0, 999) || !in(to, from, 999)) return BAD;
        if (sick.size() == 20) return FULL;
        sick.add(new Stay(-1, town, from, to));
        return sick.size();
    }

    int seal(int s, int i) {
        if (!in(s, 0, 7)) return BAD;
        if (passes.size() == 16) return FULL;
        if (sheets[s] == null) return finding(1);
        if (lacks(s, i, 7)) return finding(2);
        int[] p = items(s, i, 7);
        if (!in(p[0], 0, 3) || !in(p[1], 0, 11) || !in(p[2], 0, 99) || !in(p[3], 0, 9) || !in(p[4], 0, 7)
                || !in(p[5], 0, 999) || !in(p[6], p[5], 999)) return BAD;
        passes.add(p);
        return ok(passes.size() - 1);
    }

    int canbe(int person) {
        if (!in(person, 0, 11)) return BAD;
        List<int[]> own = passes.stream().filter(p -> p[1] == person).toList();
        for (int[] a : own) {
            for (int[] b : own) {
                if (a[4] != b[4] && Math.abs(a[5] - b[5]) < roads[a[4]][b[4]]) return 0;
            }
        }
        return 1;
    }

    private boolean forged(int pass, int day) {
        int[] p = passes.get(pass);
        boolean ill = sick.stream().anyMatch(t -> t.where == p[4] && in(p[5], t.from, t.to));
        boolean unlike = passes.subList(0, pass).stream().anyMatch(q -> q[2] == p[2] && q[3] != p[3]);
        return p[0] == 2 && (ill || unlike || told(day, 30 + p[4]) == 0);
    }

    int lets(int pass, int day, int gate, int minute) {
        if (!in(pass, 0, passes.size() - 1) || !in(day, 0, 999) || !in(gate, 0, 8) || !in(minute, 0, 1439)) return BAD;
        int[] p = passes.get(pass);
        boolean may = told(day, 40 + p[1]) == 0 && day <= p[6] && day >= p[5] + roads[p[4]][8]
                && !forged(pass, day) && (p[0] == 3 || open(gate, minute));
        return may ? 1 : 0;
    }

    int dusk(int x, int y, int minute, int pace) {
        if (!in(x, 0, 999) || !in(y, 0, 999) || !in(minute, 0, 1439) || !in(pace, 1, 60)) return BAD;
        // Minute by minute: the first GATE that is open and has been reached.
        for (int now = minute; now < 1440; now++) {
            for (int g = 0; g < 9; g++) {
                int way = Math.abs(x - gates[g][3]) + Math.abs(y - gates[g][4]);
                if (open(g, now) && minute + way * pace / 100 <= now) return g;
            }
        }
        return NONE;
    }

    private static int waited(List<Integer> coming, int clerks, int k) {
        if (coming.isEmpty()) return 0;
        PriorityQueue<Integer> free = new PriorityQueue<>();
        for (int c = 0; c < clerks; c++) free.add(0);
        int waited = 0;
        for (int minute : coming) {
            int taken = Math.max(minute, free.remove());
            waited += taken - minute;
            free.add(taken + k);
        }
        return waited;
    }

    int clerks(int s, int i, int n, int k, int c, int what) {
        if (!in(s, 0, 7) || !in(n, 1, 20) || !in(k, 1, 60) || !in(c, 1, 8) || !in(what, 0, 4)) return BAD;
        if (sheets[s] == null) return finding(1);
        if (lacks(s, i, 2 * n)) return finding(2);
        int[] it = items(s, i, 2 * n);
        List<List<Integer>> coming = new ArrayList<>();
        for (int g = 0; g < 4; g++) coming.add(new ArrayList<>());
        for (int a = 0; a < n; a++) {
            if (!in(it[2 * a], 0, 3) || !in(it[2 * a + 1], 0, 1439)) return BAD;
            coming.get(it[2 * a]).add(it[2 * a + 1]);
        }
        coming.forEach(l -> l.sort(null));
        int[] best = null;
        for (int code = 0; code < 9 * 9 * 9 * 9; code++) {
            int[] way = {code % 9, code / 9 % 9, code / 81 % 9, code / 729, 0};
            boolean fits = way[0] + way[1] + way[2] + way[3] == c;
            for (int g = 0; g < 4; g++) fits &= way[g] > 0 || coming.get(g).isEmpty();
            if (!fits) continue;
            for (int g = 0; g < 4; g++) way[4] += waited(coming.get(g), way[g], k);
            if (best == null || way[4] < best[4] || way[4] == best[4] && Arrays.compare(way, best) > 0) best = way;
        }
        if (best == null) return ok(NONE);
        return ok(what == 0 ? best[4] : best[what - 1]);
    }

    int guest(int person, int house, int from, int to) {
        if (!in(person, 0, 11) || !in(house, 0, 7) || !in(from, 0, 999) || !in(to, from, 999)) return BAD;
        if (guests.size() == 40) return FULL;
        guests.add(new Stay(person, house, from, to));
        return guests.size();
    }

    int fell(int house, int day) {
        if (!in(house, 0, 7) || !in(day, 0, 999)) return BAD;
        int was = cases.getOrDefault(house, 1000);
        cases.merge(house, day, Math::min);
        return day < was ? 1 : 0;
    }

    private boolean may(int person, int house) {
        int day = cases.get(house);
        return IntStream.rangeClosed(day - 10, day - 2).anyMatch(d -> guests.stream()
                .anyMatch(g -> g.who == person && g.where == house && in(d, g.from, g.to)));
    }

    int brought(int what) {
        if (!in(what, 0, 2)) return BAD;
        int[] by = cases.keySet().stream().mapToInt(h -> IntStream.range(0, 12)
                .filter(p -> may(p, h)).map(p -> 1 << p).sum()).toArray();
        if (what == 2) return Arrays.stream(by).reduce(0, (a, b) -> a | b);
        int[] sets = IntStream.range(0, 4096).filter(s -> Arrays.stream(by).allMatch(b -> (s & b) != 0)).toArray();
        int few = Arrays.stream(sets).map(Integer::bitCount).min().orElse(-1);
        IntStream fewest = Arrays.stream(sets).filter(s -> Integer.bitCount(s) == few);
        if (what == 0) return fewest.min().orElse(NONE);
        return few < 0 ? 0 : fewest.reduce(4095, (a, b) -> a & b);
    }

    int high(int length, int v) {
        if (!in(length, 0, 11) || !in(v, 1, 99)) return BAD;
        int was = heights[length];
        heights[length] = v;
        return was;
    }

    int lean(int length, int inside, int outside) {
        if (!in(length, 0, 11) || !in(inside, 0, 99) || !in(outside, 0, 99)) return BAD;
        if (houses.size() == 20) return FULL;
        houses.add(new House(length, inside, outside));
        return houses.size();
    }

    int breaches() {
        int bits = 0;
        for (int l = 0; l < 12; l++) {
            int length = l;
            List<House> on = houses.stream().filter(h -> h.length == length).toList();
            int inside = on.stream().mapToInt(House::inside).max().orElse(0);
            int outside = on.stream().mapToInt(House::outside).max().orElse(0);
            if (inside + 2 >= heights[l] && outside + 4 >= heights[l]) bits += 1 << l;
        }
        return bits;
    }

    int watch(int s, int i, int n) {
        if (!in(s, 0, 7) || !in(n, 1, 12)) return BAD;
        if (sheets[s] == null) return finding(1);
        if (lacks(s, i, n)) return finding(2);
        int[] sets = items(s, i, n);
        if (Arrays.stream(sets).anyMatch(v -> !in(v, 0, 4095))) return BAD;
        int all = breaches();
        for (int few = 0; few <= n; few++) {
            for (int set = 0; set < 1 << n; set++) {
                int chosen = set;
                int seen = IntStream.range(0, n).filter(w -> (chosen & 1 << w) != 0).map(w -> sets[w])
                        .reduce(0, (a, b) -> a | b);
                if (Integer.bitCount(set) == few && (all & ~seen) == 0) return ok(set);
            }
        }
        return ok(NONE);
    }

    int day(int day) {
        if (!in(day, 0, 999)) return BAD;
        int was = theDay;
        theDay = day;
        return was;
    }

    /** The KINDS as Java's own classes, whose bodies override one another. */
    private static class Paper {
        final int[] p;
        final List<Integer> trace;

        Paper(int[] p, List<Integer> trace) {
            this.p = p;
            this.trace = trace;
        }

        int kind() {
            return 0;
        }

        int size() {
            trace.add(10);
            return p[6] - p[5];
        }

        int mark() {
            trace.add(20);
            return p[2];
        }
    }

    private static final class Toll extends Paper {
        Toll(int[] p, List<Integer> trace) {
            super(p, trace);
        }

        @Override int kind() {
            return 1;
        }

        @Override int size() {
            trace.add(11);
            return super.size() * 2;
        }
    }

    private static class Health extends Paper {
        Health(int[] p, List<Integer> trace) {
            super(p, trace);
        }

        @Override int kind() {
            return 2;
        }

        @Override int size() {
            trace.add(12);
            return super.size() + mark();
        }

        @Override int mark() {
            trace.add(21);
            return super.mark() + 100 * p[4];
        }
    }

    private static final class Forged extends Health {
        Forged(int[] p, List<Integer> trace) {
            super(p, trace);
        }

        @Override int kind() {
            return 3;
        }

        @Override int size() {
            trace.add(13);
            return 0 - super.size();
        }

        @Override int mark() {
            trace.add(22);
            return super.mark() + p[3];
        }
    }

    private static final class Night extends Paper {
        Night(int[] p, List<Integer> trace) {
            super(p, trace);
        }

        @Override int kind() {
            return 4;
        }

        @Override int size() {
            trace.add(14);
            return super.size() + p[1];
        }

        @Override int mark() {
            trace.add(23);
            return super.mark() + size();
        }
    }

    private Paper paper(int pass) {
        int[] p = passes.get(pass);
        return switch (p[0]) {
            case 1 -> new Toll(p, trace);
            case 2 -> forged(pass, theDay) ? new Forged(p, trace) : new Health(p, trace);
            case 3 -> new Night(p, trace);
            default -> new Paper(p, trace);
        };
    }

    int kind(int pass) {
        return in(pass, 0, passes.size() - 1) ? paper(pass).kind() : BAD;
    }

    int as(int pass, int kind) {
        if (!in(pass, 0, passes.size() - 1) || !in(kind, 0, 4)) return BAD;
        Class<?>[] kinds = {Paper.class, Toll.class, Health.class, Forged.class, Night.class};
        return kinds[kind].isInstance(paper(pass)) ? ok(passes.get(pass)[2]) : finding(3);
    }

    int ask(int pass, int what) {
        if (!in(pass, 0, passes.size() - 1) || !in(what, 0, 1)) return BAD;
        trace.clear();
        return what == 0 ? paper(pass).size() : paper(pass).mark();
    }

    int trace(int i) {
        return in(i, 0, Math.min(trace.size(), 16) - 1) ? trace.get(i) : NONE;
    }

    int count(int what) {
        return switch (what) {
            case 0 -> (int) Arrays.stream(sheets).filter(s -> s != null).count();
            case 1 -> laws.size();
            case 2 -> carts.size();
            case 3 -> passings.size();
            case 4 -> passes.size();
            case 5 -> (int) passes.stream().filter(p -> p[0] == 2).count();
            case 6 -> (int) IntStream.range(0, passes.size()).filter(p -> forged(p, theDay)).count();
            case 7 -> cases.size();
            case 8 -> tape.length();
            default -> BAD;
        };
    }

    int status() {
        return status;
    }
}
