/** Sentence by sentence: THE WALL and WATCHES of part 4, promises 28 to 31 and 37. */
public final class EdgesWallTest {
    private static final Check CHECK = new Check("EdgesWallTest");
    private static final int NONE = Run.NONE, BAD = Run.BAD, FULL = Run.FULL;
    private static final int NULL = Run.NULL, PLACE = Run.PLACE;

    public static void main(String[] args) {
        high();
        twenty();
        passes();
        highest();
        watchNumbers();
        watchItems();
        fewest();
        leastNumber();
        none();
        counts();
        CHECK.end();
    }

    private static Run run(String sentence) {
        return new Run(CHECK, sentence);
    }

    private static void high() {
        Run r = run("LENGTHS 0 .. 11, each HIGH (1 to 99; 10 at first): what it was. BAD");
        for (int l = 0; l <= 11; l++) {
            r.due("high(" + l + ", 1)", 10).due("high(" + l + ", " + (99 - l) + ")", 1);
        }
        r.dueAll(BAD, "high(-1, 5)", "high(12, 5)", "high(0, 0)", "high(0, 100)", "high(0, -1)", "high(11, MAX)");
        for (int l = 0; l <= 11; l++) {
            r.due("high(" + l + ", 10)", 99 - l);
        }
    }

    private static void twenty() {
        Run r = run("how high inside and outside (0 to 99 each), as they are told (20 at most)");
        for (int k = 1; k <= 20; k++) {
            r.due("lean(" + k % 12 + ", " + (k == 20 ? "99, 99" : "0, 0") + ")", k)
                    .due("breaches()", k == 20 ? 256 : 0);
        }
        r.due("lean(0, 99, 99)", FULL).due("breaches()", 256).dueAll(BAD, "lean(12, 0, 0)", "lean(-1, 0, 0)",
                "lean(0, 100, 0)", "lean(0, -1, 0)", "lean(0, 0, 100)", "lean(0, 0, -1)").due("breaches()", 256);
    }

    private static void passes() {
        String sentence = "the highest inside is HIGH less 2 or more, and the highest outside HIGH less 4 or more";
        int[] heights = {3, 4, 5, 6, 10, 50, 98, 99};
        for (int high : heights) {
            for (int l = 0; l <= 11; l += 11) {
                int bit = 1 << l;
                for (int inside = Math.max(0, high - 4); inside <= Math.min(99, high + 1); inside++) {
                    for (int outside = Math.max(0, high - 6); outside <= Math.min(99, high + 1); outside++) {
                        boolean can = inside >= high - 2 && outside >= high - 4;
                        run(sentence).then("high(" + l + ", " + high + ")")
                                .then("lean(" + l + ", " + inside + ", " + outside + ")")
                                .due("breaches()", can ? bit : 0);
                    }
                }
            }
        }
        run(sentence).then("high(5, 1)", "lean(5, 0, 0)", "high(6, 2)", "lean(6, 0, 0)", "high(7, 3)", "lean(7, 0, 0)")
                .due("breaches()", 96).then("lean(7, 1, 0)").due("breaches()", 224).then("high(7, 4)")
                .due("breaches()", 96).then("high(5, 99)").due("breaches()", 64);
        run("LENGTHS on which none leans").due("breaches()", 0).then("high(0, 3)").due("breaches()", 0)
                .then("high(0, 2)").due("breaches()", 1).then("high(0, 1)").due("breaches()", 1);
    }

    private static void highest() {
        run("the highest inside .. the highest outside").then("lean(4, 8, 0)").due("breaches()", 0)
                .then("lean(4, 0, 6)").due("breaches()", 16).then("lean(4, 0, 0)").due("breaches()", 16)
                .then("lean(4, 97, 5)").due("breaches()", 16).then("high(4, 11)").due("breaches()", 0)
                .then("lean(4, 0, 7)").due("breaches()", 16);
        run("HOUSES that lean: a LENGTH").then("lean(4, 8, 0)", "lean(5, 0, 6)").due("breaches()", 0);
        Run all = run("The set of LENGTHS that a man PASSES (bits)");
        for (int l = 0; l <= 11; l++) {
            all.then("lean(" + l + ", 8, 6)").due("breaches()", (2 << l) - 1);
        }
    }

    private static void watchNumbers() {
        Run r = run("THE COVER of n WATCHES (1 to 12), ITEMS of a SHEET from i on. BAD: SHEET, n; NULL; PLACE")
                .then("lean(0, 8, 6)");
        r.dueAll(BAD, "watch(8, 0, 1)", "watch(-1, 0, 1)", "watch(0, 0, 0)", "watch(0, 0, 13)", "watch(0, 0, -1)",
                "watch(0, 0, MAX)", "watch(0, 0, MIN)").due("status()", 0).due("watch(0, -1, 1)", NULL)
                .due("status()", 1)
                .then("sheet(0, 1, 64)", "set(0, 63, 1)", "set(0, 51, -1)").due("watch(0, 52, 12)", 2048)
                .due("status()", 0).due("watch(0, 63, 1)", 1).due("watch(0, 62, 2)", 2).due("watch(0, 62, 1)", NONE)
                .due("status()", 0)
                .dueAll(PLACE, "watch(0, 53, 12)", "watch(0, 64, 1)", "watch(0, 63, 2)", "watch(0, -1, 1)",
                        "watch(0, MAX, 12)", "watch(0, MIN, 1)").due("status()", 2)
                .due("watch(0, 51, 12)", BAD).due("status()", 2);
        for (int n = 0; n <= 12; n++) {
            Run small = run("PLACE").then("sheet(0, 0, " + n + ")");
            for (int k = 1; k <= 12; k++) {
                small.due("watch(0, 0, " + k + ")", k <= n ? 0 : PLACE);
            }
        }
    }

    private static void watchItems() {
        for (int k = 0; k < 12; k++) {
            Run r = run("n sets of LENGTHS (ITEMS, bits 0 to 11) .. then BAD: an ITEM").then("lean(11, 8, 6)");
            r.then("sheet(0, 2, 12)");
            for (int v : new int[] {-1, 4096, 8192, Integer.MAX_VALUE, Integer.MIN_VALUE, 65536}) {
                r.then("set(0, " + k + ", " + v + ")").due("watch(0, 0, 12)", BAD);
                if (k > 0) {
                    // Those that are not meant are not looked at.
                    r.due("watch(0, 0, " + k + ")", NONE);
                }
            }
            r.then("set(0, " + k + ", 4095)").due("watch(0, 0, 12)", 1 << k).then("set(0, " + k + ", 2048)")
                    .due("watch(0, 0, 12)", 1 << k).then("set(0, " + k + ", 2047)").due("watch(0, 0, 12)", NONE);
        }
    }

    private static void fewest() {
        Run r = run("THE COVER: the fewest that have all LENGTHS that a man PASSES");
        for (int l = 0; l <= 11; l++) {
            r.then("lean(" + l + ", 8, 6)");
        }
        r.lay(0, 1, 2, 4, 8, 16, 32, 64, 128, 256, 512, 1024, 2048).due("watch(0, 0, 12)", 4095)
                .then("set(0, 11, 4095)").due("watch(0, 0, 12)", 2048).then("set(0, 11, 2049)")
                .due("watch(0, 0, 12)", 4094).then("set(0, 11, 1024)").due("watch(0, 0, 12)", NONE);
        // Two that are enough go ahead of three of a lesser number.
        r.lay(1, 1, 2046, 2048, 63, 4032).due("watch(1, 0, 5)", 24).due("watch(1, 0, 4)", 7).due("watch(1, 0, 3)", 7)
                .due("watch(1, 0, 2)", NONE);
        run("all LENGTHS that a man PASSES").then("lean(2, 8, 6)").lay(0, 4095 - 4, 4, 6).due("watch(0, 0, 3)", 2)
                .due("watch(0, 0, 1)", NONE).due("watch(0, 1, 2)", 1).due("watch(0, 2, 1)", 1);
    }

    private static void leastNumber() {
        run("of several the least number (WATCH k: 2 to the power k)").then("lean(0, 8, 6)", "lean(1, 8, 6)")
                .lay(0, 1, 1, 2, 2, 3).due("watch(0, 0, 5)", 16).due("watch(0, 0, 4)", 5).due("watch(0, 1, 3)", 3)
                .due("watch(0, 2, 2)", NONE).due("watch(0, 3, 2)", 2);
        run("of several the least number").then("lean(5, 8, 6)").lay(0, 32, 32, 32, 32, 32, 32, 32, 32, 32, 32, 32, 32)
                .due("watch(0, 0, 12)", 1).due("watch(0, 11, 1)", 1);
    }

    private static void none() {
        run("NONE").lay(0, 0, 0, 0).due("watch(0, 0, 3)", 0).then("lean(0, 8, 6)").due("watch(0, 0, 3)", NONE)
                .due("status()", 0).then("set(0, 2, 1)").due("watch(0, 0, 3)", 4).then("lean(11, 8, 6)")
                .due("watch(0, 0, 3)", NONE).then("high(0, 99)", "high(11, 99)").due("watch(0, 0, 3)", 0);
    }

    private static void counts() {
        Run r = run("How many: 0 SHEETS .. 8 bytes on the tape. BAD");
        for (int what = 0; what <= 8; what++) {
            r.due("count(" + what + ")", 0);
        }
        r.dueAll(BAD, "count(-1)", "count(9)", "count(MAX)", "count(MIN)", "count(NONE)");
        Run full = Town.full(CHECK, "How many: 0 SHEETS .. 8 bytes on the tape");
        int[] due = {1, 30, 16, 60, 16, 16, 0, 1, 400};
        for (int what = 0; what <= 8; what++) {
            full.due("count(" + what + ")", due[what]);
        }
    }
}
