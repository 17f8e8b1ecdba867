/** Sentence by sentence: the GATES of part 1, SHUT OUT of part 3, promises 6 to 8 and 23. */
public final class EdgesGatesTest {
    private static final Check CHECK = new Check("EdgesGatesTest");
    private static final int NONE = Run.NONE, BAD = Run.BAD;

    public static void main(String[] args) {
        hoursAtFirst();
        sharesAtFirst();
        placesAtFirst();
        bells();
        shares();
        places();
        steps();
        cut();
        pace();
        waiting();
        first();
        shutOut();
        CHECK.end();
    }

    private static Run run(String sentence) {
        return new Run(CHECK, sentence);
    }

    /** A run in which only this GATE opens at all when someone is there. */
    private static Run alone(String sentence, int gate) {
        Run r = run(sentence);
        for (int g = 0; g <= 8; g++) {
            if (g != gate) {
                r.then("bell(" + g + ", 0, 1)", "stands(" + g + ", 999, 999)");
            }
        }
        return r;
    }

    private static void hoursAtFirst() {
        for (int g = 0; g <= 8; g++) {
            alone("360 and 1080 at first", g).due("dusk(0, 0, 1, 1)", g).due("dusk(0, 0, 1079, 1)", g)
                    .due("dusk(0, 0, 1080, 1)", NONE).pass(0, 0, 0, 0, 0, 0, 999)
                    .due("lets(0, 5, " + g + ", 359)", 0).due("lets(0, 5, " + g + ", 360)", 1)
                    .due("lets(0, 5, " + g + ", 1079)", 1).due("lets(0, 5, " + g + ", 1080)", 0);
        }
    }

    private static void sharesAtFirst() {
        Run r = run("a SHARE of tolls (by 100: 1 to 300; 100)");
        for (int g = 0; g <= 8; g++) {
            r.due("part(" + g + ", 1)", 100).due("part(" + g + ", 300)", 1);
        }
        for (int g = 0; g <= 8; g++) {
            r.due("part(" + g + ", 100)", 300);
        }
    }

    private static void placesAtFirst() {
        for (int g = 0; g <= 8; g++) {
            // Ten steps from 0, 0 are too many by one minute, nine are not.
            alone("GATES being at places (0, 0 at first)", g).due("dusk(0, 0, 1079, 60)", g)
                    .due("dusk(1, 0, 1079, 60)", g).due("dusk(0, 1, 1079, 60)", g).due("dusk(9, 0, 1079, 10)", g)
                    .due("dusk(10, 0, 1079, 10)", NONE).due("dusk(5, 5, 1079, 10)", NONE);
        }
    }

    private static void bells() {
        for (int g = 0; g <= 8; g += 4) {
            String bell = "bell(" + g + ", ";
            alone("OPENS, SHUTS of a GATE (0 to 1440, SHUTS later): 1. BAD", g)
                    .due(bell + "0, 1)", 1).due("dusk(0, 0, 0, 1)", g).due("dusk(0, 0, 1, 1)", NONE)
                    .due(bell + "1439, 1440)", 1).due("dusk(0, 0, 0, 1)", g).due("dusk(0, 0, 1439, 1)", g)
                    .due(bell + "0, 1440)", 1).due("dusk(0, 0, 0, 1)", g).due("dusk(0, 0, 1439, 1)", g)
                    .due(bell + "500, 501)", 1).due("dusk(0, 0, 500, 1)", g).due("dusk(0, 0, 501, 1)", NONE)
                    .dueAll(BAD, bell + "500, 500)", bell + "501, 500)", bell + "-1, 500)", bell + "500, 1441)",
                            bell + "1440, 1440)", bell + "1440, 1441)", bell + "0, 0)", bell + "MIN, MAX)",
                            bell + "0, -1)", "bell(9, 0, 1)", "bell(-1, 0, 1)")
                    .due("dusk(0, 0, 500, 1)", g).due("dusk(0, 0, 501, 1)", NONE);
        }
    }

    private static void shares() {
        run("SHARE of a GATE: what it was. BAD").due("part(8, 300)", 100).due("part(8, 1)", 300)
                .dueAll(BAD, "part(8, 0)", "part(8, 301)", "part(8, -1)", "part(-1, 5)", "part(9, 5)", "part(8, MAX)")
                .due("part(8, 100)", 1).due("part(7, 100)", 100);
    }

    private static void places() {
        run("A GATE is at a place (0 to 999 each): 1. BAD").due("stands(8, 999, 999)", 1).due("stands(0, 0, 999)", 1)
                .dueAll(BAD, "stands(8, 1000, 0)", "stands(8, 0, 1000)", "stands(8, -1, 0)", "stands(8, 0, -1)",
                        "stands(9, 0, 0)", "stands(-1, 0, 0)")
                .due("dusk(999, 999, 500, 60)", 8).due("dusk(0, 999, 500, 60)", 0).due("dusk(0, 0, 500, 60)", 1)
                .due("stands(8, 0, 0)", 1).due("dusk(999, 999, 400, 60)", 0);
    }

    private static void steps() {
        String sentence = "(steps aside, and steps up or down, together)";
        // At a PACE of 50 two steps are a minute; the GATE shuts 20 minutes on, so 39 steps are in time, 40 are not.
        Run r = alone(sentence, 4).then("stands(4, 500, 500)", "bell(4, 0, 1020)");
        r.due("dusk(539, 500, 1000, 50)", 4).due("dusk(540, 500, 1000, 50)", NONE);
        r.due("dusk(461, 500, 1000, 50)", 4).due("dusk(460, 500, 1000, 50)", NONE);
        r.due("dusk(500, 539, 1000, 50)", 4).due("dusk(500, 540, 1000, 50)", NONE);
        r.due("dusk(500, 461, 1000, 50)", 4).due("dusk(500, 460, 1000, 50)", NONE);
        r.due("dusk(520, 519, 1000, 50)", 4).due("dusk(520, 520, 1000, 50)", NONE);
        r.due("dusk(480, 519, 1000, 50)", 4).due("dusk(480, 520, 1000, 50)", NONE);
        r.due("dusk(520, 481, 1000, 50)", 4).due("dusk(520, 480, 1000, 50)", NONE);
        r.due("dusk(481, 480, 1000, 50)", 4).due("dusk(480, 480, 1000, 50)", NONE);
    }

    private static void cut() {
        alone("All that is divided is cut towards 0", 0).due("dusk(99, 0, 1079, 1)", 0)
                .due("dusk(100, 0, 1079, 1)", NONE).due("dusk(1, 0, 1079, 60)", 0).due("dusk(2, 0, 1079, 60)", NONE)
                .due("dusk(199, 0, 1078, 1)", 0).due("dusk(200, 0, 1078, 1)", NONE);
    }

    private static void pace() {
        // 1998 steps are 19 minutes at PACE 1 and 1198 at PACE 60.
        alone("PACE (1 to 60)", 0).due("dusk(999, 999, 1060, 1)", 0).due("dusk(999, 999, 1061, 1)", NONE)
                .then("bell(0, 0, 1440)").due("dusk(999, 999, 241, 60)", 0).due("dusk(999, 999, 242, 60)", NONE)
                .dueAll(BAD, "dusk(0, 0, 0, 0)", "dusk(0, 0, 0, 61)", "dusk(0, 0, 1440, 1)", "dusk(0, 0, -1, 1)",
                        "dusk(1000, 0, 0, 1)", "dusk(0, 1000, 0, 1)", "dusk(-1, 0, 0, 1)", "dusk(0, -1, 0, 1)");
    }

    private static void waiting() {
        run("while it is open (waiting till it OPENS)").then("bell(5, 359, 1080)").due("dusk(0, 0, 0, 1)", 5)
                .due("dusk(0, 0, 359, 1)", 5).due("dusk(0, 0, 360, 1)", 0).then("bell(5, 361, 1080)")
                .due("dusk(0, 0, 0, 1)", 0)
                // A GATE nearby that opens later than a far one is reached.
                .then("stands(5, 0, 900)", "bell(5, 0, 1440)").due("dusk(0, 0, 0, 40)", 0)
                .due("dusk(0, 0, 0, 39)", 5).due("dusk(0, 0, 1, 39)", 5).due("dusk(0, 0, 9, 39)", 0)
                .due("dusk(0, 0, 8, 39)", 5);
        // It is open for one minute, at the end of the day.
        alone("while it is open (waiting till it OPENS)", 3).then("bell(3, 1439, 1440)").due("dusk(0, 0, 1, 1)", 3)
                .due("dusk(0, 0, 1439, 60)", 3).due("dusk(0, 1, 1439, 60)", 3).due("dusk(0, 2, 1439, 60)", NONE);
    }

    private static void first() {
        run("of several the first").then("stands(0, 999, 999)", "stands(1, 999, 999)", "stands(4, 10, 0)")
                .due("dusk(0, 0, 500, 10)", 2).due("dusk(5, 0, 500, 10)", 2).due("dusk(10, 0, 500, 10)", 4)
                .due("dusk(10, 0, 500, 9)", 2).due("dusk(10, 0, 0, 1)", 0).due("dusk(10, 0, 0, 60)", 2)
                .due("dusk(10, 0, 360, 60)", 4)
                .due("dusk(10, 0, 359, 9)", 2);
    }

    private static void shutOut() {
        Run r = run("NONE: no GATE before it SHUTS");
        r.due("dusk(0, 0, 1079, 60)", 0).dueAll(NONE, "dusk(0, 0, 1080, 60)", "dusk(0, 0, 1439, 1)");
        r.then("bell(8, 0, 1081)").due("dusk(0, 0, 1080, 1)", 8).due("dusk(0, 0, 1081, 1)", NONE);
        r.then("bell(8, 0, 1440)").due("dusk(0, 0, 1439, 1)", 8).due("dusk(2, 0, 1439, 60)", NONE);
    }
}
