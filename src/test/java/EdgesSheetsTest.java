/** Sentence by sentence: the terms, part 1's SHEETS, promises 1 to 5 and 38. */
public final class EdgesSheetsTest {
    private static final Check CHECK = new Check("EdgesSheetsTest");
    private static final int NONE = Run.NONE, BAD = Run.BAD, FULL = Run.FULL;
    private static final int NULL = Run.NULL, PLACE = Run.PLACE, KIND = Run.KIND, SIZE = Run.SIZE, STORE = Run.STORE;

    public static void main(String[] args) {
        last();
        asAtFirst();
        fromZero();
        missing();
        sizes();
        zeroAtFirst();
        inPlace();
        lowestBits();
        setPlaces();
        copyCounts();
        copyAhead();
        dropped();
        statusOfCalls();
        statusOfFindings();
        statusStays();
        CHECK.end();
    }

    private static Run run(String sentence) {
        return new Run(CHECK, sentence);
    }

    private static void last() {
        Run r = run("An object is used for at most 512 calls").then("sheet(0, 2, 1)", "day(7)");
        for (int k = 3; k <= 511; k++) {
            r.then("set(0, 0, " + k + ")");
        }
        r.due("day(8)", 7);
        Run full = Town.full(CHECK, "An object is used for at most 512 calls");
        full.due("count(2)", 16).due("count(3)", 60).due("count(4)", 16).due("count(1)", 30).due("count(8)", 400);
    }

    private static void asAtFirst() {
        String sentence = "All as at first";
        Run full = Town.full(CHECK, sentence);
        Run lively = Town.lively(CHECK, sentence);
        Run first = new Run(CHECK, sentence);
        for (int what = 0; what <= 8; what++) {
            first.due("count(" + what + ")", 0);
        }
        first.dueAll(0, "status()", "fault()", "breaches()", "agree(0)", "agree(1)", "agree(2)", "amiss(NONE, 0, 999)",
                "brought(0)", "brought(1)", "brought(2)", "holds(999, 0)", "holds(999, 40)", "laws()", "day(0)");
        first.due("trace(0)", NONE).due("dusk(0, 0, 1079, 60)", 0).due("dusk(0, 0, 1080, 60)", NONE)
                .due("part(1, 100)", 100).due("road(1, 2, 5)", 5).due("road(1, NONE, 5)", 5).due("high(3, 10)", 10)
                .due("holds(999, 30)", 1).due("canbe(0)", 1);
        // What a later object does is nothing to an earlier one.
        full.due("count(4)", 16).due("status()", 1);
        lively.due("count(4)", 5).due("status()", 3).due("day(0)", 15).due("trace(0)", 13);
    }

    private static void fromZero() {
        run("Numbers go from 0 on").lay(0, 0, 0, 0, 0, 0, 0, 0, 0, 0).due("cart(0, 0)", 0).due("cart(0, 0)", 1)
                .due("seal(0, 0)", 0).due("seal(0, 1)", 1).due("seal(0, 2)", 2).then("ask(0, 0)").due("trace(0)", 10);
    }

    private static void missing() {
        for (int s = 0; s <= 7; s++) {
            run("SHEETS 0 .. 7 are missing (at first)").due("count(0)", 0)
                    .due("set(" + s + ", 0, 0)", NULL).due("drop(" + s + ")", NULL)
                    .due("copy(" + s + ", 0, " + s + ", 0, 0)", NULL).due("cart(" + s + ", 0)", NULL)
                    .due("seal(" + s + ", 0)", NULL).due("clerks(" + s + ", 0, 1, 1, 1, 0)", NULL)
                    .due("watch(" + s + ", 0, 1)", NULL).due("sheet(" + s + ", 0, 0)", 0).due("count(0)", 1)
                    .due("drop(" + s + ")", 0);
        }
        Run r = run("SHEETS 0 .. 7");
        for (int s = 0; s <= 7; s++) {
            r.due("sheet(" + s + ", 2, 64)", 64).due("count(0)", s + 1);
        }
        // What one holds is not another one's.
        for (int s = 0; s <= 7; s++) {
            r.due("set(" + s + ", 0, 1)", 1).due("set(" + s + ", 63, 1)", 1);
        }
        r.then("lean(0, 99, 99)");
        for (int s = 0; s <= 7; s++) {
            r.due("watch(" + s + ", 1, 12)", NONE).due("watch(" + s + ", 0, 1)", 1).due("watch(" + s + ", 63, 1)", 1);
        }
        r.dueAll(BAD, "sheet(8, 2, 64)", "sheet(-1, 2, 64)").due("count(0)", 8);
    }

    private static void sizes() {
        for (int lane = 0; lane <= 2; lane++) {
            Run r = run("a LANE (0 bytes, 1 shorts, 2 ints) and 0 to 64 ITEMS");
            for (int n : new int[] {0, 1, 63, 64}) {
                r.due("sheet(0, " + lane + ", " + n + ")", n).due("set(0, " + n + ", 0)", PLACE);
                r.due("set(0, " + (n - 1) + ", 5)", n == 0 ? PLACE : 5).due("drop(0)", n);
            }
            r.due("sheet(0, " + lane + ", 65)", BAD).due("sheet(0, " + lane + ", -1)", SIZE).due("count(0)", 0);
        }
        run("BAD: SHEET, LANE, n above 64; SIZE").due("sheet(0, -1, 0)", BAD).due("sheet(0, 3, 0)", BAD)
                .due("sheet(0, 3, -1)", BAD).due("sheet(8, 0, -1)", BAD).due("sheet(0, 0, -1)", SIZE)
                .due("status()", 4).due("sheet(0, 0, MIN)", SIZE).due("sheet(0, 0, MAX)", BAD).due("count(0)", 0);
    }

    private static void zeroAtFirst() {
        for (int lane = 0; lane <= 2; lane++) {
            // ITEMS that are all 0 make a CART of nothing, and a set that covers no LENGTH.
            Run r = run("0 to 64 ITEMS, 0 at first").then("lean(0, 99, 99)", "sheet(3, " + lane + ", 64)");
            for (int i = 0; i <= 52; i += 4) {
                r.due("watch(3, " + i + ", 12)", NONE);
            }
            r.text("from 0 wheel 1 toll 0 1 toll 7 1;").due("laws()", 3);
            r.due("cart(3, 0)", 0).due("owed(0, 0, 0)", 0).due("cart(3, 55)", 1).due("owed(1, 0, 0)", 0);
            for (int i = 0; i < 64; i++) {
                r.then("set(3, " + i + ", 1)");
            }
            r.due("watch(3, 63, 1)", 1).due("sheet(3, " + lane + ", 64)", 64);
            for (int i = 0; i <= 52; i += 4) {
                r.due("watch(3, " + i + ", 12)", NONE);
            }
        }
    }

    private static void inPlace() {
        run("in place of what is there: n").due("sheet(1, 0, 9)", 9).due("sheet(1, 2, 3)", 3).due("count(0)", 1)
                .due("set(1, 3, 0)", PLACE).due("set(1, 2, 70000)", 70000).due("sheet(1, 1, 64)", 64)
                .due("set(1, 63, 70000)", 4464).due("sheet(1, 0, 0)", 0).due("count(0)", 1).due("drop(1)", 0);
    }

    private static void lowestBits() {
        bits(0, 127, 127, 128, -128, 255, -1, 256, 0, 257, 1, -128, -128, -129, 127, -1, -1, -256, 0, 32768, 0);
        bits(0, Integer.MAX_VALUE, -1, Integer.MIN_VALUE, 0, 0x7F80, -128);
        bits(1, 32767, 32767, 32768, -32768, 65535, -1, 65536, 0, -32768, -32768, -32769, 32767, 255, 255, -1, -1);
        bits(1, Integer.MAX_VALUE, -1, Integer.MIN_VALUE, 0, 0x7FFF8000, -32768);
        bits(2, Integer.MAX_VALUE, Integer.MAX_VALUE, Integer.MIN_VALUE, Integer.MIN_VALUE, 65536, 65536, -1, -1);
        // The ITEM itself is cut, not the answer alone.
        run("ITEM i becomes v, its lowest bits").then("lean(0, 99, 99)", "sheet(0, 0, 1)").due("set(0, 0, 257)", 1)
                .due("watch(0, 0, 1)", 1).due("set(0, 0, 255)", -1).due("watch(0, 0, 1)", BAD)
                .then("sheet(0, 1, 1)").due("set(0, 0, 65537)", 1).due("watch(0, 0, 1)", 1)
                .due("set(0, 0, 40961)", -24575).due("watch(0, 0, 1)", BAD)
                .then("sheet(0, 2, 1)").due("set(0, 0, 65537)", 65537).due("watch(0, 0, 1)", BAD);
    }

    /** Pairs of what is set and what it is then. */
    private static void bits(int lane, int... pairs) {
        Run r = run("its lowest bits, as many as the LANE has: what it is then").then("sheet(0, " + lane + ", 2)");
        for (int k = 0; k < pairs.length; k += 2) {
            r.due("set(0, 1, " + pairs[k] + ")", pairs[k + 1]);
        }
    }

    private static void setPlaces() {
        run("BAD: SHEET; NULL; PLACE").then("sheet(0, 2, 2)").due("set(0, 0, 7)", 7).due("set(0, 1, 8)", 8)
                .dueAll(PLACE, "set(0, 2, 0)", "set(0, -1, 0)", "set(0, MAX, 0)", "set(0, MIN, 0)", "set(0, NONE, 0)")
                .dueAll(NULL, "set(1, 0, 0)", "set(7, -1, 0)").dueAll(BAD, "set(8, -1, 0)", "set(-1, 0, 0)");
    }

    private static void copyCounts() {
        run("n ITEMS of a from i on come to b from j on .. PLACE (i, j, n below 0, or beyond an end)")
                .then("sheet(0, 2, 64)", "sheet(1, 2, 64)", "sheet(2, 2, 0)", "sheet(3, 1, 0)")
                .due("copy(0, 0, 1, 0, 64)", 64).due("copy(0, 63, 1, 63, 1)", 1).due("copy(0, 64, 1, 64, 0)", 0)
                .due("copy(0, 0, 2, 0, 0)", 0).due("copy(2, 0, 0, 64, 0)", 0).due("copy(2, 0, 2, 0, 0)", 0)
                .due("copy(0, 0, 0, 0, 64)", 64)
                .dueAll(PLACE, "copy(0, 0, 1, 0, 65)", "copy(0, 1, 1, 0, 64)", "copy(0, 0, 1, 1, 64)",
                        "copy(0, 64, 1, 0, 1)", "copy(0, 0, 1, 64, 1)", "copy(0, 65, 1, 0, 0)", "copy(0, 0, 1, 65, 0)",
                        "copy(0, -1, 1, 0, 1)", "copy(0, 0, 1, -1, 1)", "copy(0, -1, 1, 0, 0)", "copy(0, 0, 1, -1, 0)",
                        "copy(0, 0, 1, 0, -1)", "copy(0, 0, 2, 0, 1)", "copy(2, 0, 0, 0, 1)", "copy(0, MAX, 1, 0, 1)",
                        "copy(0, MAX, 1, MAX, MAX)", "copy(0, 1, 1, 1, MAX)", "copy(0, 0, 1, 0, MIN)")
                .due("status()", 2).dueAll(STORE, "copy(0, 0, 3, 0, 0)", "copy(3, 0, 2, -1, -1)").due("status()", 5)
                .dueAll(NULL, "copy(4, 0, 3, 0, 0)", "copy(0, 0, 4, 0, 0)", "copy(4, -1, 4, -1, -1)").due("status()", 1)
                .dueAll(BAD, "copy(8, 0, 4, 0, 0)", "copy(4, 0, 8, 0, 0)", "copy(-1, 0, 0, 0, 0)",
                "copy(0, 0, -1, 0, 0)")
                .due("status()", 1);
    }

    private static void copyAhead() {
        // Sets of which each covers the LENGTH of its number tell which ITEM came where.
        for (int j = 0; j <= 4; j++) {
            int[] items = {1, 2, 4, 8, 16, 32};
            Run r = run("as they were ahead").lay(0, items).due("copy(0, 2, 0, " + j + ", 2)", 2);
            items[j] = 4;
            items[j + 1] = 8;
            alone(r, 0, items);
        }
        Run on = run("as they were ahead").lay(0, 1, 2, 4, 8, 16, 32).due("copy(0, 0, 0, 1, 5)", 5);
        alone(on, 0, 1, 1, 2, 4, 8, 16);
        Run back = run("as they were ahead").lay(0, 1, 2, 4, 8, 16, 32).due("copy(0, 1, 0, 0, 5)", 5);
        alone(back, 0, 2, 4, 8, 16, 32, 32);
        Run other = run("n ITEMS of a from i on come to b from j on").lay(0, 1, 2, 4, 8).lay(1, 16, 16, 16, 16, 16)
                .due("copy(0, 1, 1, 2, 2)", 2);
        alone(other, 1, 16, 16, 2, 4, 16);
        alone(other, 0, 1, 2, 4, 8);
        run("its ITEMS stay when the other one is dropped").lay(0, 1).lay(1, 0).due("copy(0, 0, 1, 0, 1)", 1)
                .due("drop(0)", 1).then("lean(0, 99, 99)").due("watch(1, 0, 1)", 1);
    }

    /** ITEMS that are each one bit of 0 to 5: where that LENGTH alone can be passed, the set covers it. */
    private static void alone(Run r, int sheet, int... items) {
        for (int l = 0; l <= 5; l++) {
            r.then("lean(" + l + ", 8, 6)", "high(" + l + ", 99)");
        }
        for (int l = 0; l <= 5; l++) {
            r.then("high(" + l + ", 10)").due("breaches()", 1 << l);
            for (int i = 0; i < items.length; i++) {
                r.due("watch(" + sheet + ", " + i + ", 1)", items[i] == 1 << l ? 1 : NONE);
            }
            r.then("high(" + l + ", 99)");
        }
    }

    private static void dropped() {
        run("A SHEET is missing from now on: how many ITEMS it had. BAD; NULL").then("sheet(6, 1, 64)")
                .due("count(0)", 1).due("drop(6)", 64).due("count(0)", 0).due("drop(6)", NULL).due("status()", 1)
                .due("set(6, 0, 0)", NULL).due("drop(8)", BAD).due("drop(-1)", BAD).due("status()", 1)
                .then("sheet(6, 1, 0)").due("drop(6)", 0).due("status()", 0).due("drop(6)", NULL);
    }

    private static void statusOfCalls() {
        String[] calls = {"sheet(1, 0, 0)", "set(0, 0, 0)", "copy(0, 0, 0, 0, 0)", "drop(2)", "cart(0, 0)",
            "seal(0, 0)", "clerks(0, 0, 1, 1, 1, 0)", "watch(0, 0, 1)", "as(0, 0)", "clerks(0, 9, 2, 1, 1, 0)",
            "watch(0, 9, 1)"};
        int[] answers = {0, 0, 0, 0, 0, 1, 0, 0, 0, NONE, 0};
        for (int k = 0; k < calls.length; k++) {
            Run r = run("Of the latest call with a SHEET, or as() .. 0: it had none").then("sheet(2, 0, 0)");
            r.lay(0, 0, 0, 0, 0, 0, 0, 0, 0, 0, 0, 1, 1, 1).then("seal(0, 0)", "drop(5)").due("status()", 1);
            r.due(calls[k], answers[k]).due("status()", 0).due("status()", 0);
        }
        run("or there was none").due("status()", 0).then("bell(0, 0, 1)", "laws()", "sheet(9, 0, 0)", "cart(9, 0)")
                .due("status()", 0);
    }

    private static void statusOfFindings() {
        run("1 NULL (a SHEET that is missing), 2 PLACE .., 3 KIND .., 4 SIZE .., 5 STORE ..").due("status()", 0)
                .lay(0, 0, 0, 0, 0, 0, 0, 0).then("sheet(1, 0, 1)", "seal(0, 0)")
                .due("drop(2)", -1000010 - 1).due("status()", 1).due("set(0, 7, 0)", -1000010 - 2).due("status()", 2)
                .due("as(0, 1)", -1000010 - 3).due("status()", 3).due("sheet(0, 0, -1)", -1000010 - 4)
                .due("status()", 4)
                .due("copy(0, 0, 1, 0, 0)", -1000010 - 5).due("status()", 5);
    }

    private static void statusStays() {
        String[] others = {"bell(0, 1, 2)", "part(0, 1)", "stands(0, 1, 1)", "feed(32, 1)", "laws()", "fault()",
            "holds(0, 0)", "owed(0, 0, 0)", "pass(0, 1, 0, 0, 0, 0)", "agree(0)", "amiss(0, 0, 0)", "road(0, 1, 1)",
            "sick(0, 0, 0)", "canbe(0)", "lets(0, 0, 0, 0)", "dusk(0, 0, 0, 1)", "guest(0, 0, 0, 0)", "fell(0, 0)",
            "brought(0)", "high(0, 1)", "lean(0, 0, 0)", "breaches()", "day(1)", "kind(0)", "ask(0, 0)", "trace(0)",
            "count(0)", "status()"};
        Run r = Town.lively(CHECK, "a call without a SHEET").due("status()", 3);
        for (String call : others) {
            r.then(call).due("status()", 3);
        }
        r.text("from x").then("laws()").due("status()", 3);
        String[] refused = {"sheet(8, 0, 0)", "sheet(0, 3, 0)", "sheet(0, 0, 65)", "set(8, 0, 0)",
                "copy(8, 0, 0, 0, 0)",
            "drop(8)", "cart(8, 0)", "seal(8, 0)", "clerks(0, 0, 0, 1, 1, 0)", "watch(0, 0, 13)", "as(16, 0)",
            "as(0, 5)", "clerks(0, 1, 1, 1, 1, 0)", "cart(0, 1)", "seal(0, 0)"};
        Run bad = Town.lively(CHECK, "that was not BAD, STATE, FULL").due("status()", 3);
        for (String call : refused) {
            bad.due(call, BAD).due("status()", 3);
        }
        bad.then("set(0, 3, -1)", "as(0, 1)").due("watch(0, 0, 12)", BAD).due("status()", 3);
        Run full = Town.full(CHECK, "that was not BAD, STATE, FULL").due("status()", 1);
        full.due("cart(0, 0)", FULL).due("status()", 1).due("seal(0, 9)", FULL).due("status()", 1)
                .due("as(0, 1)", KIND).due("cart(4, 0)", FULL).due("status()", 3);
    }
}
