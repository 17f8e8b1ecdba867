/** Sentence by sentence: part 2, promises 13 to 17. */
public final class EdgesCartsTest {
    private static final Check CHECK = new Check("EdgesCartsTest");
    private static final int NONE = Run.NONE, BAD = Run.BAD, FULL = Run.FULL;
    private static final int NULL = Run.NULL, PLACE = Run.PLACE;

    public static void main(String[] args) {
        sixteen();
        wheelsAndMeasures();
        nineItems();
        refusals();
        wheels();
        wares();
        free();
        share();
        least();
        noCart();
        sixty();
        order();
        notOpen();
        inAndIn();
        countsAllTheSame();
        shortDays();
        shortOwes();
        lost();
        empty();
        CHECK.end();
    }

    private static Run run(String sentence) {
        return new Run(CHECK, sentence);
    }

    private static Run carts(String sentence, int n) {
        Run r = run(sentence).lay(7, 1, 0, 0, 0, 0, 0, 0, 0, 0);
        for (int k = 0; k < n; k++) {
            r.then("cart(7, 0)");
        }
        return r;
    }

    private static void sixteen() {
        Run r = run("CARTS 0 .. 15 (16 at most), as they are told").laws("from 0 wheel 1 toll 3 1;", 2);
        r.lay(0, 0, 0, 0, 0, 0, 0, 0, 0, 0);
        for (int k = 0; k < 16; k++) {
            r.due("count(2)", k).then("set(0, 4, " + (k + 1) + ")").due("cart(0, 0)", k);
            r.due("owed(" + k + ", 0, 0)", k + 1).due("owed(" + (k + 1) + ", 0, 0)", BAD);
        }
        r.due("cart(0, 0)", FULL).due("count(2)", 16);
        for (int k = 0; k < 16; k++) {
            r.due("owed(" + k + ", 0, 0)", k + 1);
        }
        r.dueAll(BAD, "owed(16, 0, 0)", "owed(-1, 0, 0)");
    }

    private static void wheelsAndMeasures() {
        for (int k = 0; k <= 8; k++) {
            int most = k == 0 ? 4 : 99;
            Run r = run("wheels (0 to 4), measures (0 to 99) of WARES 0 to 7").lay(0, 0, 0, 0, 0, 0, 0, 0, 0, 0);
            int[] bad = {-1, most + 1, Integer.MAX_VALUE, Integer.MIN_VALUE, 256, 65536};
            for (int v : bad) {
                r.then("set(0, " + k + ", " + v + ")").due("cart(0, 0)", BAD).due("count(2)", 0);
            }
            r.then("set(0, " + k + ", " + most + ")").due("cart(0, 0)", 0).then("set(0, " + k + ", 0)")
                    .due("cart(0, 0)", 1).due("count(2)", 2);
            r.laws("from 0 " + (k == 0 ? "wheel 10" : "toll " + (k - 1) + " 10") + ";", 1)
                    .due("owed(0, 0, 0)", 10 * most).due("owed(1, 0, 0)", 0);
        }
    }

    private static void nineItems() {
        run("nine ITEMS of a SHEET from i on")
                .then("sheet(0, 0, 64)", "set(0, 55, 3)", "set(0, 63, 9)", "set(0, 54, 99)")
                .laws("from 0 wheel 100 toll 7 1;", 2).due("cart(0, 55)", 0).due("owed(0, 0, 0)", 309)
                .due("cart(0, 54)", BAD).due("cart(0, 56)", PLACE).due("cart(0, 63)", PLACE).due("cart(0, 64)", PLACE)
                .due("cart(0, -1)", PLACE).due("count(2)", 1);
        run("nine ITEMS, so neither the one behind them nor the one ahead of them")
                .lay(0, 5, 4, 0, 0, 0, 0, 0, 0, 0, 0, 100)
                .due("cart(0, 1)", 0).due("cart(0, 2)", BAD).due("cart(0, 0)", BAD);
        for (int n = 0; n <= 9; n++) {
            run("nine ITEMS of a SHEET from i on").then("sheet(0, 1, " + n + ")").due("cart(0, 0)", n < 9 ? PLACE : 0)
                    .due("cart(0, 1)", PLACE);
        }
        run("its ITEMS are the CART's from then on").lay(0, 1, 0, 0, 0, 0, 0, 0, 0, 0).laws("from 0 wheel 7;", 1)
                .due("cart(0, 0)", 0).then("set(0, 0, 4)").due("owed(0, 0, 0)", 7).then("drop(0)")
                .due("owed(0, 0, 0)", 7);
    }

    private static void refusals() {
        run("BAD: SHEET; FULL: 16; NULL; PLACE; then BAD: an ITEM").due("cart(8, 0)", BAD).due("cart(-1, 0)", BAD)
                .due("cart(0, -1)", NULL).due("status()", 1).then("sheet(0, 2, 9)", "set(0, 0, 5)")
                .due("cart(0, 1)", PLACE).due("status()", 2).due("cart(0, 0)", BAD).due("status()", 2)
                .then("set(0, 0, 4)").due("cart(0, 0)", 0).due("status()", 0);
        carts("FULL: 16; NULL; PLACE; then BAD: an ITEM", 16).due("cart(8, 0)", BAD).due("cart(0, 0)", FULL)
                .due("cart(7, 1)", FULL).then("set(7, 0, 5)").due("cart(7, 0)", FULL);
    }

    private static void wheels() {
        run("wheels times what a wheel owes").cart(0, 0, 0, 0, 0, 0, 0, 0, 0).cart(4, 0, 0, 0, 0, 0, 0, 0, 0)
                .laws("from 5 wheel 999; from 6 wheel 0;", 2).due("owed(0, 0, 5)", 0).due("owed(1, 0, 5)", 3996)
                .due("owed(1, 0, 4)", 0).due("owed(1, 0, 6)", 0);
    }

    private static void wares() {
        run("measures times the toll of each WARE").cart(0, 1, 2, 3, 4, 5, 6, 7, 8)
                .laws("from 0 toll 0 1 toll 1 10 toll 2 100 toll 3 999;", 4).due("owed(0, 0, 0)", 1 + 20 + 300 + 3996)
                .laws("from 1 toll 3 0 toll 7 2;", 6).due("owed(0, 0, 1)", 1 + 20 + 300 + 16)
                .due("owed(0, 0, 0)", 4317);
        run("measures times the toll of each WARE").cart(4, 99, 99, 99, 99, 99, 99, 99, 99).then("part(3, 300)")
                .laws("from 0 wheel 999 toll 0 999 toll 1 999 toll 2 999 toll 3 999 toll 4 999 toll 5 999 toll 6 999"
                        + " toll 7 999;", 9)
                .due("owed(0, 0, 999)", 999 * 796).due("owed(0, 3, 999)", 3 * 999 * 796);
    }

    private static void free() {
        Run r = run("WARE, up to so many measures: no toll for it at all, if there are no more")
                .laws("from 0 toll 2 7 toll 3 1; from 1 free 2 1; from 2 free 2 98; from 3 free 2 99;"
                        + " from 4 free 2 999; from 5 free 2 0;", 7);
        r.cart(0, 0, 0, 0, 5, 0, 0, 0, 0).cart(0, 0, 0, 1, 5, 0, 0, 0, 0).cart(0, 0, 0, 2, 5, 0, 0, 0, 0)
                .cart(0, 0, 0, 98, 5, 0, 0, 0, 0).cart(0, 0, 0, 99, 5, 0, 0, 0, 0);
        int[] measures = {0, 1, 2, 98, 99};
        int[] upTo = {0, 1, 98, 99, 999, 0};
        for (int cart = 0; cart < 5; cart++) {
            for (int day = 0; day <= 5; day++) {
                int due = 5 + (measures[cart] <= upTo[day] ? 0 : 7 * measures[cart]);
                r.due("owed(" + cart + ", 0, " + day + ")", due);
            }
        }
        run("each WARE that does not go free (0 does)").laws("from 0 toll 0 999 free 1 9;", 2)
                .cart(0, 0, 0, 0, 0, 0, 0, 0, 0).due("owed(0, 0, 0)", 0);
    }

    private static void share() {
        Run r = run("all by the SHARE of the GATE, by 100").cart(1, 50, 50, 0, 0, 0, 0, 0, 0)
                .laws("from 0 toll 0 1 toll 1 1; from 1 toll 1 0 wheel 49; from 2 wheel 50;", 5);
        r.due("owed(0, 8, 0)", 100).then("part(8, 1)").due("owed(0, 8, 0)", 1).due("owed(0, 8, 1)", 0)
                .due("owed(0, 8, 2)", 1).due("owed(0, 0, 1)", 99).then("part(8, 300)").due("owed(0, 8, 1)", 297)
                .then("part(8, 50)").due("owed(0, 8, 1)", 49).then("part(8, 99)").due("owed(0, 8, 2)", 99)
                .due("owed(0, 8, 1)", 98).then("part(8, 101)").due("owed(0, 8, 1)", 99).due("owed(0, 8, 2)", 101);
    }

    private static void least() {
        Run r = run("LEAST: the GATE at which it owes least, of several the first").cart(1, 0, 0, 0, 0, 0, 0, 0, 0);
        r.due("owed(0, NONE, 0)", 0).laws("from 5 wheel 99; from 6 wheel 100;", 2).due("owed(0, NONE, 5)", 0);
        r.then("part(8, 99)").due("owed(0, NONE, 5)", 8).due("owed(0, NONE, 4)", 0);
        r.then("part(4, 99)").due("owed(0, NONE, 5)", 4);
        // 99 by 98 and by 97 of 100 are 97 and 96; 100 by 98 and by 97 are 98 and 97.
        r.then("part(3, 98)", "part(5, 97)").due("owed(0, NONE, 5)", 5).then("part(5, 98)").due("owed(0, NONE, 5)", 3);
        r.then("part(0, 1)", "part(6, 2)").due("owed(0, NONE, 5)", 0).due("owed(0, NONE, 6)", 0);
        r.then("part(0, 2)", "part(6, 1)").due("owed(0, NONE, 5)", 6).due("owed(0, NONE, 6)", 6);
        Run all = run("LEAST: the GATE at which it owes least, of several the first").cart(4, 0, 0, 0, 0, 0, 0, 0, 0)
                .laws("from 0 wheel 999;", 1);
        for (int g = 0; g <= 8; g++) {
            all.then("part(" + g + ", " + (300 - g) + ")").due("owed(0, NONE, 0)", g == 8 ? 8 : g + 1);
        }
        all.dueAll(BAD, "owed(1, NONE, 0)", "owed(-1, NONE, 0)", "owed(0, NONE, 1000)", "owed(0, NONE, -1)",
                "owed(0, -1, 0)", "owed(0, 9, 0)", "owed(0, BAD, 0)", "owed(0, 0, 1000)", "owed(0, 0, -1)");
    }

    private static void noCart() {
        run("BAD: CART").dueAll(BAD, "owed(0, 0, 0)", "owed(0, NONE, 0)", "pass(0, 1, 0, 0, 0, 0)").due("count(3)", 0)
                .cart(0, 0, 0, 0, 0, 0, 0, 0, 0).due("owed(0, 0, 0)", 0).due("pass(0, 1, 0, 0, 0, 0)", 1)
                .dueAll(BAD, "owed(1, 0, 0)", "pass(1, 1, 0, 0, 0, 0)", "pass(-1, 1, 0, 0, 0, 0)").due("count(3)", 1);
    }

    private static void sixty() {
        Run r = carts("PASSINGS, as they are told (60 at most)", 1).due("pass(0, 1, 0, 999, 1439, 100000)", 1);
        r.due("pass(0, 1, 0, 0, 0, 0)", 2);
        for (int k = 3; k <= 60; k++) {
            r.due("count(3)", k - 1).due("pass(0, 1, 8, 500, " + k + ", 1)", k);
        }
        r.due("pass(0, 1, 8, 500, 61, 1)", FULL).due("pass(0, 0, 0, 0, 1, 1)", FULL).due("count(3)", 60)
                .due("amiss(8, 0, 999)", -58).due("amiss(0, 999, 999)", -100000).due("amiss(0, 0, 998)", 0)
                .due("pass(0, 2, 8, 500, 61, 1)", BAD).due("agree(1)", 1).due("agree(2)", 0);
    }

    private static void order() {
        String sentence = "They go by days and MINUTES, of one as told";
        // Out is told ahead of in, and goes behind it by a MINUTE, or by a day.
        carts(sentence, 1).then("pass(0, 0, 0, 5, 501, 0)", "pass(0, 1, 0, 5, 500, 0)").due("agree(0)", 0)
                .due("agree(1)", 0);
        carts(sentence, 1).then("pass(0, 0, 0, 6, 400, 0)", "pass(0, 1, 0, 5, 500, 0)").due("agree(0)", 0)
                .due("agree(1)", 0);
        carts(sentence, 1).then("pass(0, 0, 0, 5, 500, 0)", "pass(0, 1, 0, 5, 500, 0)").due("agree(0)", 1)
                .due("agree(1)", 1);
        carts(sentence, 1).then("pass(0, 1, 0, 5, 500, 0)", "pass(0, 0, 0, 5, 500, 0)").due("agree(0)", 0)
                .due("agree(1)", 0);
        carts(sentence, 1).then("bell(0, 0, 1440)", "pass(0, 0, 0, 6, 0, 0)", "pass(0, 1, 0, 5, 1439, 0)")
                .due("agree(0)", 0).due("agree(1)", 0);
        carts(sentence, 1).then("bell(0, 0, 1440)", "pass(0, 0, 0, 999, 1439, 0)", "pass(0, 1, 0, 0, 0, 0)")
                .due("agree(0)", 0).due("agree(1)", 0);
        // Told backwards, each keeps its CART, GATE and what it paid.
        Run back = carts(sentence, 3).then("bell(2, 0, 1)");
        for (int k = 5; k >= 0; k--) {
            back.then("pass(" + k % 3 + ", 1, " + k + ", " + k + ", 500, " + (1 << k) + ")");
        }
        for (int k = 0; k <= 5; k++) {
            back.due("amiss(" + k + ", 0, 999)", -(1 << k)).due("amiss(NONE, " + k + ", " + k + ")", -(1 << k))
                    .due("amiss(" + k + ", " + k + ", " + k + ")", -(1 << k));
        }
        back.due("agree(0)", 4).due("agree(1)", 3);
        // Three of one MINUTE, told between others.
        carts(sentence, 1).then("pass(0, 1, 0, 7, 500, 0)", "pass(0, 1, 0, 5, 500, 0)", "pass(0, 0, 0, 5, 500, 0)",
                "pass(0, 0, 0, 7, 500, 0)", "pass(0, 1, 0, 5, 500, 0)", "pass(0, 0, 0, 6, 500, 0)").due("agree(0)", 0)
                .due("agree(1)", 0).due("agree(2)", 0);
    }

    private static void notOpen() {
        for (int g = 0; g <= 8; g += 8) {
            for (int in = 0; in <= 1; in++) {
                int[][] due = {{0, 1}, {359, 1}, {360, 0}, {1079, 0}, {1080, 1}, {1439, 1}};
                for (int[] d : due) {
                    Run r = carts("WRONG: one by a GATE that is not open (OPENS is, SHUTS is not)", 1);
                    r.then("pass(0, 1, 1, 0, 500, 0)").then(in == 0 ? "agree(0)" : "pass(0, 0, 1, 0, 501, 0)");
                    r.due("agree(0)", 0).then("pass(0, " + in + ", " + g + ", 5, " + d[0] + ", 0)")
                            .due("agree(0)", d[1]);
                }
            }
        }
        carts("by a GATE that is not open (OPENS is, SHUTS is not)", 1).then("bell(2, 0, 1)", "pass(0, 1, 2, 5, 0, 0)")
                .due("agree(0)", 0).then("pass(0, 0, 2, 5, 1, 0)").due("agree(0)", 1).then("bell(2, 1439, 1440)")
                .due("agree(0)", 2).then("pass(0, 1, 2, 5, 1439, 0)").due("agree(0)", 2);
    }

    private static void inAndIn() {
        carts("a CART that comes in and is in, or goes out and is not (none is in at first)", 2)
                .then("pass(0, 0, 0, 1, 500, 0)").due("agree(0)", 1).then("pass(0, 1, 0, 2, 500, 0)").due("agree(0)", 1)
                .then("pass(0, 1, 0, 3, 500, 0)").due("agree(0)", 2).then("pass(1, 1, 0, 3, 500, 0)").due("agree(0)", 2)
                .then("pass(0, 0, 0, 4, 500, 0)").due("agree(0)", 2).then("pass(0, 0, 0, 5, 500, 0)").due("agree(0)", 3)
                .then("pass(1, 0, 0, 5, 500, 0)").due("agree(0)", 3).due("agree(1)", 0).due("agree(2)", 1);
        carts("WRONG for two reasons is one", 1).then("pass(0, 0, 0, 1, 1080, 0)").due("agree(0)", 1)
                .then("pass(0, 1, 0, 2, 359, 0)").due("agree(0)", 2).then("pass(0, 1, 0, 3, 359, 0)")
                .due("agree(0)", 3);
    }

    private static void countsAllTheSame() {
        carts("it counts all the same", 1).then("pass(0, 1, 0, 1, 1200, 9)").due("agree(0)", 1).due("agree(1)", 1)
                .due("amiss(0, 1, 1)", -9).then("pass(0, 1, 0, 2, 500, 8)").due("agree(0)", 2).due("agree(1)", 1)
                .due("amiss(0, 1, 2)", -17).then("pass(0, 0, 0, 3, 1200, 7)").due("agree(0)", 3).due("agree(1)", 0)
                .due("agree(2)", 0).then("pass(0, 0, 0, 4, 500, 0)", "pass(0, 0, 0, 5, 500, 0)").due("agree(0)", 5)
                .due("agree(1)", 0).due("agree(2)", 1).then("pass(0, 1, 0, 6, 500, 0)").due("agree(0)", 5)
                .due("agree(1)", 1).due("agree(2)", 0);
        Run all = carts("1 how many CARTS are in", 16);
        for (int k = 0; k < 16; k++) {
            all.then("pass(" + k + ", 1, 0, 1, 500, 0)").due("agree(1)", k + 1);
        }
        for (int k = 0; k < 16; k++) {
            all.then("pass(" + k + ", 0, 0, 2, 500, 0)").due("agree(1)", 15 - k);
        }
        for (int k = 0; k < 16; k++) {
            all.then("pass(" + k + ", 0, 0, 3, 500, 0)").due("agree(2)", k + 1).due("agree(0)", k + 1);
        }
    }

    private static void shortDays() {
        Run r = carts("SHORT of a GATE on days from one to another one (among them)", 1);
        r.then("pass(0, 1, 0, 0, 500, 1)", "pass(0, 1, 0, 10, 0, 10)", "pass(0, 1, 0, 10, 1439, 100)",
                "pass(0, 1, 0, 11, 0, 1000)", "pass(0, 1, 0, 999, 500, 10000)", "pass(0, 1, 8, 10, 500, 50000)");
        r.due("amiss(0, 0, 0)", -1).due("amiss(0, 1, 9)", 0).due("amiss(0, 10, 10)", -110).due("amiss(0, 9, 10)", -110)
                .due("amiss(0, 10, 11)", -1110).due("amiss(0, 11, 11)", -1000).due("amiss(0, 11, 998)", -1000)
                .due("amiss(0, 11, 999)", -11000).due("amiss(0, 999, 999)", -10000).due("amiss(0, 0, 999)", -11111)
                .due("amiss(8, 0, 999)", -50000).due("amiss(8, 11, 999)", 0).due("amiss(1, 0, 999)", 0)
                .due("amiss(NONE, 0, 999)", -61111).due("amiss(NONE, 10, 10)", -50110)
                .dueAll(BAD, "amiss(0, 10, 9)", "amiss(NONE, 10, 9)", "amiss(0, -1, 0)", "amiss(0, 0, 1000)",
                        "amiss(-1, 0, 0)", "amiss(9, 0, 0)", "amiss(BAD, 0, 0)", "amiss(0, 1000, 1000)",
                        "amiss(0, -1, -1)");
    }

    private static void shortOwes() {
        run("what its PASSINGS in owe, less what they paid").laws("from 5 wheel 10; from 6 wheel 25;", 2)
                .cart(1, 0, 0, 0, 0, 0, 0, 0, 0).cart(3, 0, 0, 0, 0, 0, 0, 0, 0).then("part(1, 50)")
                .then("pass(0, 1, 0, 4, 500, 1)").due("amiss(0, 0, 999)", -1).then("pass(0, 1, 0, 5, 500, 4)")
                .due("amiss(0, 0, 999)", 5).then("pass(1, 1, 1, 6, 500, 0)").due("amiss(1, 0, 999)", 37)
                .then("pass(1, 0, 1, 6, 500, 99)").due("amiss(1, 0, 999)", 37).then("pass(0, 1, 1, 6, 500, 12)")
                .due("amiss(1, 0, 999)", 37).due("amiss(NONE, 0, 999)", 42).then("part(1, 300)")
                .due("amiss(1, 0, 999)", 225 + 75 - 12).laws("from 6 wheel 0;", 3).due("amiss(1, 0, 999)", -12);
        // Each PASSING is cut by itself: twice 99 by 50 of 100 is twice 49.
        run("All that is divided is cut towards 0").laws("from 0 wheel 99;", 1).cart(1, 0, 0, 0, 0, 0, 0, 0, 0)
                .then("part(0, 50)", "pass(0, 1, 0, 0, 0, 0)", "pass(0, 1, 0, 0, 0, 0)").due("amiss(0, 0, 0)", 98)
                .due("amiss(NONE, 0, 0)", 98);
    }

    private static void lost() {
        carts("LOST: how many CARTS went out more often than they came in", 3).due("agree(2)", 0)
                .then("pass(2, 0, 0, 1, 500, 0)").due("agree(2)", 1).then("pass(2, 0, 0, 1, 500, 0)").due("agree(2)", 1)
                .then("pass(2, 1, 0, 1, 500, 0)").due("agree(2)", 1).then("pass(2, 1, 0, 1, 500, 0)").due("agree(2)", 0)
                .then("pass(0, 1, 0, 1, 500, 0)", "pass(0, 1, 0, 1, 500, 0)", "pass(0, 0, 0, 1, 500, 0)")
                .due("agree(2)", 0).then("pass(1, 0, 0, 9, 500, 0)").due("agree(2)", 1)
                .then("pass(0, 0, 0, 1, 500, 0)").due("agree(2)", 1).then("pass(0, 0, 0, 1, 500, 0)")
                .due("agree(2)", 2);
    }

    private static void empty() {
        run("Of all PASSINGS: 0 .. WRONG, 1 .. in, 2 LOST. BAD").dueAll(0, "agree(0)", "agree(1)", "agree(2)",
                "amiss(NONE, 0, 999)", "amiss(0, 0, 0)")
                .dueAll(BAD, "agree(-1)", "agree(3)", "agree(MIN)", "agree(MAX)");
    }
}
