/** Sentence by sentence: CLERKS, GUESTS and CASES of part 4, promises 24 to 27. */
public final class EdgesClerksTest {
    private static final Check CHECK = new Check("EdgesClerksTest");
    private static final int NONE = Run.NONE, BAD = Run.BAD, FULL = Run.FULL;
    private static final int NULL = Run.NULL, PLACE = Run.PLACE;

    public static void main(String[] args) {
        numbers();
        refusals();
        items();
        waited();
        byMinutes();
        eachGate();
        allOfThem();
        tooFew();
        mostAtFirst();
        forty();
        cases();
        mayDays();
        earlyCases();
        fewest();
        eightHouses();
        sure();
        noCases();
        CHECK.end();
    }

    private static Run run(String sentence) {
        return new Run(CHECK, sentence);
    }

    /** WAITED and the CLERKS at GATES 0 to 3 of the first n ARRIVALS of SHEET 0. */
    private static void best(Run r, int n, int k, int c, int... due) {
        for (int what = 0; what <= 4; what++) {
            r.due("clerks(0, 0, " + n + ", " + k + ", " + c + ", " + what + ")", due[what]);
        }
    }

    /** n ARRIVALS at one GATE and MINUTE. */
    private static int[] crowd(int n, int gate, int minute) {
        int[] items = new int[2 * n];
        for (int a = 0; a < n; a++) {
            items[2 * a] = gate;
            items[2 * a + 1] = minute;
        }
        return items;
    }

    private static void numbers() {
        Run r = run("n ARRIVALS (1 to 20), two ITEMS each of a SHEET from i on").lay(0, crowd(32, 1, 9));
        r.due("clerks(0, 0, 1, 1, 1, 0)", 0).due("clerks(0, 0, 2, 1, 1, 0)", 1).due("clerks(0, 0, 20, 1, 1, 0)", 190)
                .due("clerks(0, 24, 20, 1, 1, 0)", 190).due("clerks(0, 62, 1, 1, 1, 2)", 1)
                .dueAll(PLACE, "clerks(0, 26, 20, 1, 1, 0)", "clerks(0, 25, 20, 1, 1, 0)", "clerks(0, 63, 1, 1, 1, 0)",
                        "clerks(0, 64, 1, 1, 1, 0)", "clerks(0, -1, 1, 1, 1, 0)", "clerks(0, -2, 1, 1, 1, 0)")
                .dueAll(BAD, "clerks(0, 0, 0, 1, 1, 0)", "clerks(0, 0, 21, 1, 1, 0)", "clerks(0, 0, -1, 1, 1, 0)",
                        "clerks(0, 0, MAX, 1, 1, 0)", "clerks(0, 0, MIN, 1, 1, 0)");
        r.due("clerks(0, 0, 2, 60, 1, 0)", 60).due("clerks(0, 0, 20, 60, 1, 0)", 11400)
                .due("clerks(0, 0, 20, 60, 8, 0)", 60 * (8 + 2 * 4)).due("clerks(0, 0, 20, 60, 8, 2)", 8)
                .dueAll(BAD, "clerks(0, 0, 1, 0, 1, 0)", "clerks(0, 0, 1, 61, 1, 0)", "clerks(0, 0, 1, 1, 0, 0)",
                        "clerks(0, 0, 1, 1, 9, 0)", "clerks(0, 0, 1, 1, 1, -1)", "clerks(0, 0, 1, 1, 1, 5)");
    }

    private static void refusals() {
        run("BAD: SHEET, n, k, c, what; NULL; PLACE; then BAD: an ITEM").dueAll(BAD, "clerks(8, 0, 1, 1, 1, 0)",
                "clerks(-1, 0, 1, 1, 1, 0)", "clerks(0, 0, 21, 1, 1, 0)", "clerks(0, 0, 1, 61, 1, 0)",
                "clerks(0, 0, 1, 1, 9, 0)", "clerks(0, 0, 1, 1, 1, 5)").due("status()", 0)
                .due("clerks(0, -1, 1, 1, 1, 0)", NULL).due("status()", 1).lay(0, 4, 0, 0)
                .due("clerks(0, 0, 2, 1, 1, 0)", PLACE).due("status()", 2).due("clerks(0, 0, 1, 1, 1, 0)", BAD)
                .due("status()", 2).due("clerks(0, 1, 1, 1, 1, 0)", 0).due("status()", 0);
    }

    private static void items() {
        for (int a = 0; a < 2; a++) {
            Run r = run("GATE 0 to 3, MINUTE, each .. BAD: an ITEM (MINUTES 0 to 1439)").lay(0, 0, 0, 0, 0);
            for (int gate : new int[] {-1, 4, Integer.MAX_VALUE, Integer.MIN_VALUE}) {
                r.then("set(0, " + 2 * a + ", " + gate + ")").due("clerks(0, 0, 2, 1, 8, 0)", BAD);
            }
            r.then("set(0, " + 2 * a + ", 3)").due("clerks(0, 0, 2, 1, 8, 0)", 0);
            for (int minute : new int[] {-1, 1440, Integer.MAX_VALUE, Integer.MIN_VALUE}) {
                r.then("set(0, " + (2 * a + 1) + ", " + minute + ")").due("clerks(0, 0, 2, 1, 8, 0)", BAD);
                r.due("clerks(0, 0, 2, 1, 1, 0)", BAD);
            }
            r.then("set(0, " + (2 * a + 1) + ", 1439)").due("clerks(0, 0, 2, 1, 8, 0)", 0);
        }
    }

    private static void waited() {
        String sentence = "each is taken as soon as one of its CLERKS is free. WAITED: MINUTES from coming to ..";
        // The CLERK is free just as the next one comes, one MINUTE later, one earlier.
        best(run(sentence).lay(0, 2, 100, 2, 105), 2, 5, 1, 0, 0, 0, 1, 0);
        best(run(sentence).lay(0, 2, 100, 2, 104), 2, 5, 1, 1, 0, 0, 1, 0);
        best(run(sentence).lay(0, 2, 100, 2, 106), 2, 5, 1, 0, 0, 0, 1, 0);
        best(run(sentence).lay(0, 2, 0, 2, 0, 2, 0), 3, 60, 1, 180, 0, 0, 1, 0);
        best(run(sentence).lay(0, 2, 0, 2, 0, 2, 0), 3, 60, 2, 60, 0, 0, 2, 0);
        // Behind a wait the line goes on waiting: 0, 3, 6 and 1 MINUTES.
        best(run(sentence).lay(0, 3, 10, 3, 12, 3, 14, 3, 24), 4, 5, 1, 3 + 6 + 1, 0, 0, 0, 1);
        // Of two CLERKS the one that is free first takes the next: 0, 0, 2 (the first), 2 (the second).
        best(run(sentence).lay(0, 3, 10, 3, 11, 3, 13, 3, 14), 4, 5, 2, 2 + 2, 0, 0, 0, 2);
        // Past the end of the day they are taken all the same.
        best(run(sentence).lay(0, 3, 1439, 3, 1439), 2, 60, 1, 60, 0, 0, 0, 1);
    }

    private static void byMinutes() {
        String sentence = "at a GATE ARRIVALS go by MINUTES, of one as they stand";
        best(run(sentence).lay(0, 1, 30, 1, 20, 1, 10), 3, 15, 1, 5 + 10, 0, 1, 0, 0);
        best(run(sentence).lay(0, 1, 20, 1, 30, 1, 10), 3, 15, 1, 5 + 10, 0, 1, 0, 0);
        best(run(sentence).lay(0, 1, 1439, 1, 0), 2, 60, 1, 0, 0, 1, 0, 0);
        best(run(sentence).lay(0, 1, 10, 0, 5, 1, 8, 0, 5), 4, 5, 2, 3 + 5, 1, 1, 0, 0);
    }

    private static void eachGate() {
        run("so that each GATE with ARRIVALS has one or more").lay(0, 0, 5, 1, 5, 2, 5, 3, 5)
                .due("clerks(0, 0, 4, 9, 3, 0)", NONE).due("clerks(0, 0, 4, 9, 4, 0)", 0)
                .dueAll(1, "clerks(0, 0, 4, 9, 4, 1)", "clerks(0, 0, 4, 9, 4, 2)", "clerks(0, 0, 4, 9, 4, 3)",
                        "clerks(0, 0, 4, 9, 4, 4)");
        // The most crowded GATE would be served best by all four.
        int[] items = {0, 5, 3, 5, 3, 5, 3, 5, 3, 5, 3, 5};
        best(run("so that each GATE with ARRIVALS has one or more").lay(0, items), 6, 10, 4, 20, 1, 0, 0, 3);
        best(run("so that each GATE with ARRIVALS has one or more").lay(0, items), 6, 10, 2, 100, 1, 0, 0, 1);
    }

    private static void allOfThem() {
        for (int c = 1; c <= 8; c++) {
            for (int gate = 0; gate <= 3; gate++) {
                int[] due = {0, c - 1, 0, 0, 0};
                due[1 + gate]++;
                best(run("all ways to share out all of c CLERKS (1 to 8)").lay(0, gate, 700), 1, 60, c, due);
            }
        }
    }

    private static void tooFew() {
        for (int gates = 1; gates <= 4; gates++) {
            for (int c = 1; c <= 4; c++) {
                Run r = run("NONE: there are too few CLERKS").lay(0, 3, 5, 2, 5, 1, 5, 0, 5).then("drop(6)");
                for (int what = 0; what <= 4; what++) {
                    String call = "clerks(0, 0, " + gates + ", 9, " + c + ", " + what + ")";
                    CHECK.due(call + " is NONE", r.say(call) == NONE ? 1 : 0, c < gates ? 1 : 0);
                }
                r.due("status()", 0);
            }
        }
    }

    private static void mostAtFirst() {
        String sentence = "of several the one with the most at GATE 0, then 1, ..";
        best(run(sentence).lay(0, 2, 5, 3, 5), 2, 9, 2, 0, 0, 0, 1, 1);
        best(run(sentence).lay(0, 2, 5, 3, 5), 2, 9, 8, 0, 6, 0, 1, 1);
        best(run(sentence).lay(0, 1, 5, 1, 5, 2, 5, 2, 5), 4, 9, 3, 9, 0, 2, 1, 0);
        best(run(sentence).lay(0, 2, 5, 2, 5, 3, 5, 3, 5), 4, 9, 3, 9, 0, 0, 2, 1);
        best(run(sentence).lay(0, 0, 5, 0, 5, 3, 5, 3, 5), 4, 9, 3, 9, 2, 0, 0, 1);
        // The least WAITED goes ahead of the most at GATE 0.
        best(run(sentence).lay(0, 0, 5, 0, 6, 3, 5, 3, 5), 4, 9, 3, 8, 1, 0, 0, 2);
    }

    private static void forty() {
        Run r = run("GUESTS, as they are told (40 at most)").then("fell(7, 20)");
        for (int k = 1; k <= 40; k++) {
            r.due("guest(11, 7, " + (k == 40 ? 18 : 19) + ", 99)", k).due("brought(0)", k == 40 ? 2048 : NONE);
        }
        r.due("guest(0, 7, 15, 15)", FULL).due("brought(2)", 2048).dueAll(BAD, "guest(12, 7, 15, 15)",
                "guest(-1, 7, 15, 15)", "guest(0, 8, 15, 15)", "guest(0, -1, 15, 15)", "guest(0, 7, 15, 14)",
                "guest(0, 7, -1, 15)", "guest(0, 7, 15, 1000)");
    }

    private static void cases() {
        Run r = run("a HOUSE fell sick on a day (one each at most; the earliest told day holds)");
        for (int h = 0; h <= 7; h++) {
            r.due("count(7)", h).due("fell(" + h + ", 999)", 1).due("fell(" + h + ", 999)", 0).due("count(7)", h + 1);
        }
        r.due("fell(3, 500)", 1).due("fell(3, 501)", 0).due("fell(3, 500)", 0).due("fell(3, 499)", 1)
                .due("fell(3, 0)", 1)
                .due("fell(3, 0)", 0).due("fell(3, 999)", 0).due("count(7)", 8).dueAll(BAD, "fell(8, 0)", "fell(-1, 0)",
                "fell(0, -1)", "fell(0, 1000)");
        // Who MAY have brought it by a later CASE may not by the earliest, whichever PERSON it is.
        for (int p = 0; p <= 11; p++) {
            run("the earliest told day holds").then("guest(" + p + ", 0, 60, 60)", "fell(0, 65)")
                    .due("brought(2)", 1 << p)
                    .due("brought(0)", 1 << p).due("brought(1)", 1 << p).due("fell(0, 61)", 1).due("brought(1)", 0)
                    .due("brought(2)", 0).due("brought(0)", NONE);
        }
        // The earliest holds for what MAY have been brought, too.
        run("the earliest told day holds").then("guest(1, 0, 40, 40)", "guest(2, 0, 60, 60)", "fell(0, 65)")
                .due("brought(2)", 4).due("fell(0, 45)", 1).due("brought(2)", 2).due("fell(0, 65)", 0)
                .due("brought(2)", 2).due("brought(0)", 2);
    }

    private static void mayDays() {
        String sentence = "if they were there on some day from 10 to 2 days ahead of its CASE";
        int[][] due = {{89, 89, 0}, {90, 90, 1}, {91, 91, 1}, {97, 97, 1}, {98, 98, 1}, {99, 99, 0}, {100, 100, 0},
            {0, 89, 0}, {0, 90, 1}, {98, 999, 1}, {99, 999, 0}, {0, 999, 1}, {90, 98, 1}, {80, 89, 0}, {99, 110, 0}};
        for (int[] d : due) {
            run(sentence).then("guest(5, 3, " + d[0] + ", " + d[1] + ")", "fell(3, 100)")
                    .due("brought(2)", d[2] == 1 ? 32 : 0).due("brought(0)", d[2] == 1 ? 32 : NONE)
                    .due("brought(1)", d[2] == 1 ? 32 : 0);
        }
        run("to a HOUSE").then("guest(5, 4, 95, 95)", "fell(3, 100)").due("brought(2)", 0).due("brought(0)", NONE);
        // Two stays, one too early and one too late, are no stay between them.
        run(sentence).then("guest(5, 3, 80, 89)", "guest(5, 3, 99, 100)", "fell(3, 100)").due("brought(0)", NONE)
                .then("guest(5, 3, 0, 90)").due("brought(0)", 32);
    }

    private static void earlyCases() {
        String sentence = "on some day from 10 to 2 days ahead of its CASE";
        for (int day = 0; day <= 12; day++) {
            run(sentence).then("guest(0, 0, 0, 0)", "fell(0, " + day + ")")
                    .due("brought(0)", day >= 2 && day <= 10 ? 1 : NONE);
        }
        run(sentence).then("guest(0, 0, 989, 989)", "guest(1, 0, 997, 999)", "guest(2, 0, 998, 999)",
                "guest(3, 0, 988, 988)", "fell(0, 999)").due("brought(2)", 3);
    }

    private static void fewest() {
        String sentence = "that with the fewest, of several the least number; NONE: there is none";
        Run r = run(sentence).then("fell(0, 20)", "fell(1, 20)").due("brought(0)", NONE);
        r.then("guest(11, 0, 15, 15)").due("brought(0)", NONE).then("guest(10, 1, 15, 15)").due("brought(0)", 3072)
                .then("guest(9, 1, 15, 15)").due("brought(0)", 2048 + 512).then("guest(11, 1, 15, 15)")
                .due("brought(0)", 2048).then("guest(9, 0, 15, 15)").due("brought(0)", 512)
                .then("guest(0, 0, 15, 15)", "guest(1, 1, 15, 15)").due("brought(0)", 512).due("brought(2)", 3587)
                .then("guest(0, 1, 15, 15)").due("brought(0)", 1).then("fell(2, 20)").due("brought(0)", NONE)
                .due("brought(2)", 3587);
    }

    private static void eightHouses() {
        Run r = run("to all HOUSES with CASES");
        for (int h = 0; h <= 7; h++) {
            r.then("fell(" + h + ", 20)", "guest(" + (11 - h) + ", " + h + ", 10, 10)")
                    .due("brought(0)", (1 << 12) - (1 << 11 - h)).due("brought(1)", (1 << 12) - (1 << 11 - h));
        }
        for (int h = 0; h <= 7; h++) {
            r.then("guest(3, " + h + ", 18, 18)").due("brought(0)", (1 << 11 - h) - 16 + 8);
        }
        r.due("brought(1)", 8).due("brought(2)", 4088);
    }

    private static void sure() {
        Run r = run("SURE is a PERSON in all such sets of so few").then("fell(0, 20)", "fell(1, 20)", "fell(2, 20)")
                .due("brought(1)", 0);
        r.then("guest(4, 0, 15, 15)", "guest(4, 1, 15, 15)", "guest(5, 2, 15, 15)").due("brought(1)", 48)
                .then("guest(6, 2, 15, 15)").due("brought(0)", 48).due("brought(1)", 16)
                .then("guest(5, 0, 15, 15)", "guest(6, 1, 15, 15)").due("brought(0)", 48).due("brought(1)", 0)
                .due("brought(2)", 112).then("guest(7, 0, 15, 15)", "guest(7, 1, 15, 15)", "guest(7, 2, 15, 15)")
                .due("brought(0)", 128).due("brought(1)", 128).due("brought(2)", 240);
    }

    private static void noCases() {
        run("THE FEWEST (what = 0; NONE), those SURE (1; bits; 0 ..), those who MAY (2; bits). BAD")
                .dueAll(0, "brought(0)", "brought(1)", "brought(2)").then("guest(0, 0, 0, 999)")
                .dueAll(0, "brought(0)", "brought(1)", "brought(2)").dueAll(BAD, "brought(-1)", "brought(3)",
                "brought(MAX)", "brought(MIN)").then("fell(1, 20)").due("brought(0)", NONE)
                .dueAll(0, "brought(1)", "brought(2)").then("guest(2, 1, 15, 15)", "fell(2, 20)")
                .due("brought(0)", NONE)
                .due("brought(1)", 0).due("brought(2)", 4);
        run("0 where there is none").then("guest(0, 0, 15, 15)", "fell(0, 20)").due("brought(1)", 1).then("fell(1, 20)")
                .due("brought(1)", 0).due("brought(0)", NONE).due("brought(1)", 0).due("brought(2)", 1);
        // What WATCHES cover is nothing to GUESTS, nor the other way round.
        run("THE FEWEST, and THE COVER").lay(0, 4095, 0, 1).then("lean(0, 8, 6)", "fell(0, 20)")
                .due("watch(0, 0, 2)", 1)
                .due("brought(0)", NONE).due("brought(1)", 0).due("brought(2)", 0).then("guest(2, 0, 15, 15)")
                .due("watch(0, 0, 3)", 1).due("brought(0)", 4).due("brought(1)", 4).due("brought(2)", 4)
                .due("watch(0, 1, 1)", NONE).due("watch(0, 1, 2)", 2).due("brought(0)", 4);
    }
}
