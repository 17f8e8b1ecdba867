/** Sentence by sentence: part 3 but for SHUT OUT, the ASKS of part 4, promises 18 to 22 and 32 to 36. */
public final class EdgesPassesTest {
    private static final Check CHECK = new Check("EdgesPassesTest");
    private static final int NONE = Run.NONE, BAD = Run.BAD, FULL = Run.FULL;
    private static final int NULL = Run.NULL, PLACE = Run.PLACE, KIND = Run.KIND;
    private static final int PASS = 0, TOLL = 1, HEALTH = 2, FORGED = 3, NIGHT = 4;

    public static void main(String[] args) {
        sixteen();
        items();
        sevenItems();
        refusals();
        roads();
        sick();
        sickDays();
        goodOnTheDay();
        otherHand();
        onlyHealth();
        theDay();
        canBe();
        letsDays();
        letsBans();
        letsForged();
        letsGates();
        as();
        asks();
        trace();
        CHECK.end();
    }

    private static Run run(String sentence) {
        return new Run(CHECK, sentence);
    }

    private static void sixteen() {
        Run r = run("PASSES 0 .. 15 (16 at most)").lay(0, 0, 0, 0, 0, 0, 0, 0);
        for (int p = 0; p < 16; p++) {
            r.due("count(4)", p).due("kind(" + p + ")", BAD).due("as(" + p + ", 0)", BAD).due("ask(" + p + ", 1)", BAD)
                    .due("lets(" + p + ", 0, 0, 0)", BAD).then("set(0, 2, " + (p + 80) + ")").due("seal(0, 0)", p)
                    .due("as(" + p + ", 0)", p + 80);
        }
        r.due("seal(0, 0)", FULL).due("count(4)", 16).dueAll(BAD, "kind(16)", "as(16, 0)", "ask(16, 0)",
                "lets(16, 0, 0, 0)", "kind(-1)", "as(-1, 0)", "ask(-1, 0)", "lets(-1, 0, 0, 0)");
        for (int p = 0; p < 16; p++) {
            r.due("as(" + p + ", 0)", p + 80);
        }
    }

    private static void items() {
        int[] most = {3, 11, 99, 9, 7, 999, 999};
        for (int k = 0; k < 7; k++) {
            Run r = run("a SORT .., a PERSON (0 to 11), a SEAL number (0 to 99), a HAND (0 to 9), a TOWN and a day ..");
            r.lay(0, 0, 0, 0, 0, 0, 0, k == 6 ? 0 : 999);
            for (int v : new int[] {-1, most[k] + 1, Integer.MIN_VALUE, Integer.MAX_VALUE, 65536}) {
                r.then("set(0, " + k + ", " + v + ")").due("seal(0, 0)", BAD).due("count(4)", 0);
            }
            r.then("set(0, " + k + ", " + most[k] + ")").due("seal(0, 0)", 0).then("set(0, " + k + ", 0)")
                    .due("seal(0, 0)", 1);
        }
        Run r = run("a day it was given, a last day (that day or later)").lay(0, 0, 0, 0, 0, 0, 500, 500);
        r.due("seal(0, 0)", 0).due("ask(0, 0)", 0).then("set(0, 6, 499)").due("seal(0, 0)", BAD)
                .then("set(0, 6, 501)").due("seal(0, 0)", 1).due("ask(1, 0)", 1).then("set(0, 5, 502)")
                .due("seal(0, 0)", BAD).then("set(0, 5, 0)", "set(0, 6, 999)").due("seal(0, 0)", 2)
                .due("ask(2, 0)", 999)
                .then("set(0, 5, 999)").due("seal(0, 0)", 3).due("ask(3, 0)", 0);
    }

    private static void sevenItems() {
        run("seven ITEMS of a SHEET from i on")
                .then("sheet(0, 1, 64)", "set(0, 59, 42)", "set(0, 63, 9)", "set(0, 56, 4)")
                .due("seal(0, 57)", 0).due("as(0, 0)", 42).due("ask(0, 0)", 9).due("seal(0, 56)", BAD)
                .dueAll(PLACE, "seal(0, 58)", "seal(0, 63)", "seal(0, 64)", "seal(0, -1)").due("count(4)", 1);
        run("seven ITEMS, so neither the one behind them nor the one ahead of them").lay(0, -1, 3, 0, 0, 0, 0, 0, 0, -1)
                .due("seal(0, 1)", 0).due("kind(0)", NIGHT).due("seal(0, 2)", BAD).due("seal(0, 0)", BAD);
        for (int n = 0; n <= 7; n++) {
            run("seven ITEMS of a SHEET from i on").then("sheet(0, 0, " + n + ")").due("seal(0, 0)", n < 7 ? PLACE : 0)
                    .due("seal(0, 1)", PLACE);
        }
        run("its ITEMS are the PASS's from then on").lay(0, 0, 0, 5, 0, 0, 0, 0).due("seal(0, 0)", 0)
                .then("set(0, 2, 6)").due("as(0, 0)", 5).then("drop(0)").due("as(0, 0)", 5);
    }

    private static void refusals() {
        run("BAD: SHEET; FULL: 16; NULL; PLACE; then BAD: an ITEM").due("seal(8, 0)", BAD).due("seal(-1, 0)", BAD)
                .due("seal(0, -1)", NULL).due("status()", 1).then("sheet(0, 2, 7)", "set(0, 0, 4)")
                .due("seal(0, 1)", PLACE).due("status()", 2).due("seal(0, 0)", BAD).due("status()", 2)
                .then("set(0, 0, 3)").due("seal(0, 0)", 0).due("status()", 0);
    }

    private static void roads() {
        Run r = run("ROADS: days from TOWN to TOWN 0 to 7 and to the gates (1 to 60; 5 at first)");
        for (int a = 0; a <= 7; a++) {
            for (int b = 0; b < a; b++) {
                r.due("road(" + a + ", " + b + ", " + (10 + a) + ")", 5);
                // "and back"
                r.due("road(" + b + ", " + a + ", " + (20 + b) + ")", 10 + a);
            }
            r.due("road(" + a + ", NONE, " + (30 + a) + ")", 5);
        }
        for (int a = 0; a <= 7; a++) {
            for (int b = 0; b < a; b++) {
                r.due("road(" + a + ", " + b + ", 60)", 20 + b);
            }
            r.due("road(" + a + ", NONE, 1)", 30 + a).due("road(" + a + ", NONE, 60)", 1);
            r.due("road(" + a + ", " + a + ", 5)", BAD);
        }
        r.dueAll(BAD, "road(0, 1, 0)", "road(0, 1, 61)", "road(0, NONE, 0)", "road(0, NONE, 61)", "road(8, 0, 5)",
                "road(0, 8, 5)", "road(-1, 0, 5)", "road(0, -1, 5)", "road(NONE, 0, 5)", "road(NONE, NONE, 5)",
                "road(8, NONE, 5)", "road(8, 8, 5)", "road(0, BAD, 5)").due("road(0, 1, 1)", 60).due("road(1, 0, 9)", 1)
                .due("road(1, 0, 8)", 9).due("road(0, 1, 7)", 8).due("road(0, 1, 6)", 7);
    }

    private static void sick() {
        Run r = run("SICK: .., as they are told (20 at most)").pass(2, 0, 0, 0, 7, 500, 500)
                .pass(2, 0, 0, 0, 0, 500, 500);
        for (int k = 1; k <= 20; k++) {
            r.due("sick(7, " + (k == 20 ? 500 : 900) + ", 999)", k).due("kind(0)", k == 20 ? FORGED : HEALTH);
        }
        r.due("sick(0, 0, 999)", FULL).due("kind(1)", HEALTH).dueAll(BAD, "sick(8, 0, 0)", "sick(0, 1, 0)",
                "sick(-1, 0, 0)", "sick(0, -1, 0)", "sick(0, 0, 1000)", "sick(0, 1000, 1000)");
    }

    private static void sickDays() {
        String sentence = "its TOWN was sick on the day it was given .. from a day to another one (among them)";
        int[][] due = {{499, 499, HEALTH}, {500, 500, FORGED}, {501, 501, HEALTH}, {0, 499, HEALTH}, {0, 500, FORGED},
            {500, 999, FORGED}, {501, 999, HEALTH}, {0, 999, FORGED}, {0, 0, HEALTH}, {999, 999, HEALTH}};
        for (int[] d : due) {
            run(sentence).pass(2, 0, 0, 0, 3, 500, 600).then("sick(3, " + d[0] + ", " + d[1] + ")")
                    .due("kind(0)", d[2]);
            run("its TOWN, no other").pass(2, 0, 0, 0, 3, 500, 600).then("sick(2, " + d[0] + ", " + d[1] + ")")
                    .due("kind(0)", HEALTH);
        }
        run(sentence).pass(2, 0, 0, 0, 0, 0, 0).pass(2, 0, 0, 0, 0, 999, 999).then("sick(0, 0, 0)")
                .due("kind(0)", FORGED)
                .due("kind(1)", HEALTH).then("sick(0, 999, 999)").due("kind(1)", FORGED);
        // Sick on THE DAY, or on the last day, is nothing to it.
        run(sentence).pass(2, 0, 0, 0, 3, 500, 600).then("sick(3, 600, 600)", "sick(3, 550, 550)", "day(550)")
                .due("kind(0)", HEALTH);
    }

    private static void goodOnTheDay() {
        run("its seal is not good on THE DAY").pass(2, 0, 0, 0, 7, 500, 600).pass(2, 0, 0, 0, 6, 500, 600)
                .laws("from 10 bad 7; from 20 good 7; from 999 bad 7;", 3).due("kind(0)", HEALTH).then("day(9)")
                .due("kind(0)", HEALTH).then("day(10)").due("kind(0)", FORGED).due("kind(1)", HEALTH)
                .due("count(6)", 1).due("count(5)", 2).then("day(19)").due("kind(0)", FORGED).then("day(20)")
                .due("kind(0)", HEALTH).due("count(6)", 0).then("day(500)").due("kind(0)", HEALTH).then("day(999)")
                .due("kind(0)", FORGED).due("count(5)", 2);
    }

    private static void otherHand() {
        String sentence = "a PASS told earlier has its SEAL with another HAND";
        run(sentence).pass(2, 0, 99, 0, 0, 9, 9).pass(2, 0, 99, 9, 0, 9, 9).pass(2, 0, 99, 0, 0, 9, 9)
                .pass(2, 0, 98, 9, 0, 9, 9).pass(2, 0, 98, 9, 0, 9, 9).due("kind(0)", HEALTH).due("kind(1)", FORGED)
                .due("kind(2)", FORGED).due("kind(3)", HEALTH).due("kind(4)", HEALTH).due("count(6)", 2);
        for (int sort = 0; sort <= 3; sort++) {
            run(sentence).pass(sort, 5, 0, 1, 3, 50, 60).pass(2, 6, 0, 2, 4, 9, 9).due("kind(1)", FORGED);
            run("told earlier, not later").pass(2, 6, 0, 2, 4, 9, 9).pass(sort, 5, 0, 1, 3, 50, 60)
                    .due("kind(0)", HEALTH);
            run("with another HAND").pass(sort, 5, 0, 2, 3, 50, 60).pass(2, 6, 0, 2, 4, 9, 9).due("kind(1)", HEALTH);
            run("has its SEAL").pass(sort, 5, 1, 1, 3, 50, 60).pass(2, 6, 0, 2, 4, 9, 9).due("kind(1)", HEALTH);
        }
        Run r = run(sentence).pass(0, 0, 7, 1, 0, 0, 0);
        for (int p = 1; p < 15; p++) {
            r.then("set(7, 2, " + (20 + p) + ")", "seal(7, 0)");
        }
        r.pass(2, 0, 7, 0, 0, 0, 0).due("count(4)", 16).due("kind(15)", FORGED);
    }

    private static void onlyHealth() {
        int[] kinds = {PASS, TOLL, FORGED, NIGHT};
        for (int sort = 0; sort <= 3; sort++) {
            run("3 FORGED, a HEALTH one").pass(sort, 0, 5, 5, 2, 9, 9).then("sick(2, 9, 9)")
                    .due("kind(0)", kinds[sort]);
            run("3 FORGED, a HEALTH one").pass(sort, 0, 5, 5, 2, 9, 9).laws("from 0 bad 2;", 1)
                    .due("kind(0)", kinds[sort]);
            run("3 FORGED, a HEALTH one").pass(0, 0, 5, 4, 2, 9, 9).pass(sort, 0, 5, 5, 2, 9, 9)
                    .due("kind(1)", kinds[sort]);
            run("5 HEALTH ones (FORGED, too), 6 FORGED ones").pass(sort, 0, 5, 5, 2, 9, 9)
                    .due("count(5)", sort == 2 ? 1 : 0)
                    .due("count(6)", 0).then("sick(2, 9, 9)").due("count(5)", sort == 2 ? 1 : 0)
                    .due("count(6)", sort == 2 ? 1 : 0).due("count(4)", 1);
        }
    }

    private static void theDay() {
        run("THE DAY (0 at first): what it was. BAD").due("day(999)", 0).dueAll(BAD, "day(-1)", "day(1000)", "day(MIN)",
                "day(MAX)").due("day(0)", 999).due("day(0)", 0);
        run("THE DAY (0 at first)").pass(2, 0, 0, 0, 0, 9, 9).laws("from 0 bad 0; from 1 good 0;", 2)
                .due("kind(0)", FORGED);
    }

    private static void canBe() {
        String sentence = "the days on which they were given are ROADS from a to b apart, or more (0 for one TOWN)";
        for (int road : new int[] {1, 5, 60}) {
            for (int apart : new int[] {0, road - 1, road, road + 1}) {
                int due = apart >= road ? 1 : 0;
                run(sentence).then("road(3, 4, " + road + ")").pass(0, 11, 0, 0, 3, 100, 100)
                        .pass(1, 11, 0, 0, 4, 100 + apart, 300).due("canbe(11)", due);
                run(sentence).then("road(3, 4, " + road + ")").pass(2, 0, 0, 0, 3, 100 + apart, 300)
                        .pass(3, 0, 0, 0, 4, 100, 100).due("canbe(0)", due);
                run(sentence).then("road(4, 3, " + road + ")").pass(0, 11, 0, 0, 3, 100, 100)
                        .pass(1, 11, 0, 0, 4, 100 + apart, 300).due("canbe(11)", due);
                run(sentence).then("road(4, 3, " + road + ")").pass(2, 0, 0, 0, 3, 100 + apart, 300)
                        .pass(3, 0, 0, 0, 4, 100, 100).due("canbe(0)", due);
            }
        }
        run(sentence).pass(0, 1, 0, 0, 3, 100, 100).pass(0, 1, 0, 0, 3, 100, 100).pass(0, 1, 0, 0, 3, 101, 101)
                .due("canbe(1)", 1);
        run("of any two of them").pass(0, 1, 0, 0, 3, 100, 100).pass(0, 1, 0, 0, 4, 105, 105)
                .pass(0, 1, 0, 0, 3, 110, 110)
                .due("canbe(1)", 1).pass(0, 1, 0, 0, 5, 109, 109).due("canbe(1)", 0).due("canbe(0)", 1);
        run("of any two of them").pass(0, 1, 0, 0, 5, 109, 109).pass(0, 1, 0, 0, 3, 100, 100)
                .pass(0, 1, 0, 0, 4, 105, 105)
                .due("canbe(1)", 0);
        run("a PERSON's PASSES").pass(0, 1, 0, 0, 3, 100, 100).pass(0, 2, 0, 0, 4, 100, 100).due("canbe(1)", 1)
                .due("canbe(2)", 1);
        Run none = run("Whether a PERSON's PASSES CAN BE true together: 1, 0. BAD");
        for (int person = 0; person <= 11; person++) {
            none.due("canbe(" + person + ")", 1);
        }
        none.dueAll(BAD, "canbe(-1)", "canbe(12)", "canbe(MIN)", "canbe(MAX)").pass(0, 11, 0, 0, 0, 0, 0)
                .due("canbe(11)", 1);
        // The road to the gates is nothing to it.
        run("ROADS from a to b").then("road(3, NONE, 60)", "road(4, NONE, 60)").pass(0, 1, 0, 0, 3, 100, 100)
                .pass(0, 1, 0, 0, 4, 105, 105).due("canbe(1)", 1);
    }

    private static void letsDays() {
        String sentence = "no later than the last day, and ROADS from its TOWN to the gates or more behind the day";
        for (int road : new int[] {1, 5, 60}) {
            run(sentence).then("road(6, NONE, " + road + ")").pass(0, 0, 0, 0, 6, 100, 200)
                    .due("lets(0, " + (99 + road) + ", 0, 500)", 0).due("lets(0, " + (100 + road) + ", 0, 500)", 1)
                    .due("lets(0, 199, 0, 500)", 1).due("lets(0, 200, 0, 500)", 1).due("lets(0, 201, 0, 500)", 0)
                    .due("lets(0, 0, 0, 500)", 0).due("lets(0, 100, 0, 500)", 0).due("lets(0, 999, 0, 500)", 0);
        }
        run(sentence).pass(0, 0, 0, 0, 6, 100, 104).due("lets(0, 104, 0, 500)", 0).due("lets(0, 105, 0, 500)", 0)
                .pass(0, 0, 0, 0, 6, 100, 105).due("lets(1, 104, 0, 500)", 0).due("lets(1, 105, 0, 500)", 1)
                .due("lets(1, 106, 0, 500)", 0).pass(0, 0, 0, 0, 6, 994, 999).due("lets(2, 998, 0, 500)", 0)
                .due("lets(2, 999, 0, 500)", 1).pass(0, 0, 0, 0, 6, 0, 999).due("lets(3, 4, 0, 500)", 0)
                .due("lets(3, 5, 0, 500)", 1);
        run("to the gates, not to another TOWN").then("road(6, 0, 60)", "road(6, 7, 60)", "road(7, NONE, 60)")
                .pass(0, 0, 0, 0, 6, 100, 200).due("lets(0, 105, 0, 500)", 1);
    }

    private static void letsBans() {
        run("if there is no ban").pass(0, 11, 0, 0, 0, 0, 999).pass(3, 11, 0, 0, 0, 0, 999).pass(0, 10, 0, 0, 0, 0, 999)
                .laws("from 20 ban 11; from 30 lift 11;", 2).due("lets(0, 19, 0, 500)", 1).due("lets(0, 20, 0, 500)", 0)
                .due("lets(0, 29, 0, 500)", 0).due("lets(0, 30, 0, 500)", 1).due("lets(1, 19, 0, 0)", 1)
                .due("lets(1, 20, 0, 0)", 0).due("lets(1, 30, 0, 0)", 1).due("lets(2, 20, 0, 500)", 1).then("day(20)")
                .due("lets(0, 19, 0, 500)", 1);
    }

    private static void letsForged() {
        run("it is not FORGED (with that day for THE DAY)").pass(2, 0, 0, 0, 1, 0, 999)
                .laws("from 20 bad 1; from 30 good 1;", 2).then("day(25)").due("kind(0)", FORGED)
                .due("lets(0, 19, 0, 500)", 1).due("lets(0, 20, 0, 500)", 0).due("lets(0, 29, 0, 500)", 0)
                .due("lets(0, 30, 0, 500)", 1).due("day(5)", 25).due("lets(0, 20, 0, 500)", 0).then("sick(1, 0, 0)")
                .due("lets(0, 19, 0, 500)", 0).due("lets(0, 30, 0, 500)", 0);
        run("it is not FORGED").pass(2, 0, 0, 0, 1, 0, 999).pass(2, 0, 0, 1, 1, 0, 999).due("lets(0, 9, 0, 500)", 1)
                .due("lets(1, 9, 0, 500)", 0);
        for (int sort = 0; sort <= 3; sort++) {
            run("it is not FORGED").pass(0, 0, 0, 0, 1, 0, 999).pass(sort, 0, 0, 1, 1, 0, 999).then("sick(1, 0, 999)")
                    .laws("from 0 bad 1;", 1).due("lets(1, 9, 0, 500)", sort == 2 ? 0 : 1);
        }
    }

    private static void letsGates() {
        for (int sort = 0; sort <= 3; sort++) {
            int night = sort == 3 ? 1 : 0;
            run("the GATE is open, or it is a NIGHT one").then("bell(8, 400, 401)").pass(sort, 0, 0, 0, 1, 0, 999)
                    .due("lets(0, 9, 0, 0)", night).due("lets(0, 9, 0, 359)", night).due("lets(0, 9, 0, 360)", 1)
                    .due("lets(0, 9, 0, 1079)", 1).due("lets(0, 9, 0, 1080)", night).due("lets(0, 9, 0, 1439)", night)
                    .due("lets(0, 9, 8, 399)", night).due("lets(0, 9, 8, 400)", 1).due("lets(0, 9, 8, 401)", night)
                    .due("lets(0, 4, 0, 500)", 0).due("lets(0, 4, 0, 0)", 0);
        }
        run("BAD: PASS, day, GATE, MINUTE (0 to 1439)").due("lets(0, 0, 0, 0)", BAD).pass(3, 0, 0, 0, 1, 0, 999)
                .dueAll(BAD, "lets(-1, 0, 0, 0)", "lets(1, 0, 0, 0)", "lets(0, -1, 0, 0)", "lets(0, 1000, 0, 0)",
                        "lets(0, 0, -1, 0)", "lets(0, 0, 9, 0)", "lets(0, 0, NONE, 0)", "lets(0, 0, 0, -1)",
                        "lets(0, 0, 0, 1440)");
    }

    private static void as() {
        // A PASS, a TOLL, a HEALTH one, a NIGHT one, and a FORGED one.
        Run r = run("each is a PASS, FORGED ones are HEALTH ones, too").pass(0, 0, 0, 0, 0, 0, 0)
                .pass(1, 0, 10, 0, 0, 0, 0).pass(2, 0, 20, 0, 0, 0, 0).pass(3, 0, 30, 0, 0, 0, 0)
                .pass(2, 0, 99, 0, 1, 0, 0).then("sick(1, 0, 0)");
        int[][] due = {{0, KIND, KIND, KIND, KIND}, {10, 10, KIND, KIND, KIND}, {20, KIND, 20, KIND, KIND},
            {30, KIND, KIND, KIND, 30}, {99, KIND, 99, 99, KIND}};
        for (int p = 0; p < 5; p++) {
            for (int kind = 0; kind < 5; kind++) {
                r.due("as(" + p + ", " + kind + ")", due[p][kind]).due("status()", due[p][kind] == KIND ? 3 : 0);
            }
            r.due("as(" + p + ", 5)", BAD).due("as(" + p + ", -1)", BAD);
        }
        r.due("as(5, 0)", BAD).due("as(5, 1)", BAD).due("as(-1, 0)", BAD).due("status()", 3);
    }

    private static void asks() {
        run("0 SIZE: 10 lent to all PASSES: its days (last less the one it was given)").pass(0, 11, 99, 9, 7, 0, 999)
                .pass(0, 11, 99, 9, 7, 999, 999).due("ask(0, 0)", 999).due("ask(1, 0)", 0).due("ask(0, 1)", 99);
        run("11 of TOLLS: what 10 gives, twice").pass(1, 11, 99, 9, 7, 0, 999).pass(1, 11, 99, 9, 7, 9, 9)
                .due("ask(0, 0)", 1998).due("ask(1, 0)", 0).due("ask(0, 1)", 99);
        run("12 of HEALTH ones: what 10 gives, and MARK .. 21: what 20 gives, and 100 times the TOWN")
                .pass(2, 11, 99, 9, 7, 0, 999).pass(2, 0, 0, 0, 0, 9, 9).due("ask(0, 0)", 999 + 799)
                .due("ask(0, 1)", 799).due("ask(1, 0)", 0).due("ask(1, 1)", 0);
        run("13 of FORGED ones: 0 less what 12 gives .. 22: what 21 gives, and the HAND").then("sick(7, 0, 9)")
                .then("sick(0, 9, 9)").pass(2, 11, 99, 9, 7, 0, 999).pass(2, 0, 0, 0, 0, 9, 9)
                .due("ask(0, 0)", -(999 + 99 + 700 + 9)).due("ask(0, 1)", 808).due("ask(1, 0)", 0).due("ask(1, 1)", 0)
                .due("kind(1)", FORGED);
        run("14 of NIGHT ones: what 10 gives, and the PERSON .. 23: what 20 gives, and SIZE")
                .pass(3, 11, 99, 9, 7, 0, 999)
                .pass(3, 0, 0, 0, 0, 9, 9).due("ask(0, 0)", 1010).due("ask(0, 1)", 1109).due("ask(1, 0)", 0)
                .due("ask(1, 1)", 0);
        run("by this it is asked").pass(2, 0, 50, 4, 3, 0, 10).laws("from 5 bad 3; from 6 good 3;", 2)
                .due("ask(0, 0)", 360).then("day(5)").due("ask(0, 0)", -364).due("ask(0, 1)", 354).then("day(6)")
                .due("ask(0, 0)", 360);
        run("An ASK (0, 1) of a PASS. BAD").due("ask(0, 0)", BAD).pass(0, 0, 0, 0, 0, 0, 0).dueAll(BAD, "ask(0, 2)",
                "ask(0, -1)", "ask(1, 0)", "ask(-1, 0)", "ask(0, MAX)", "ask(0, MIN)").due("ask(0, 0)", 0);
    }

    private static void trace() {
        Run r = run("each of which leaves its number in THE TRACE as it begins").pass(0, 0, 0, 0, 0, 0, 0)
                .pass(1, 0, 10, 0, 0, 0, 0).pass(2, 0, 20, 0, 0, 0, 0).pass(3, 0, 30, 0, 0, 0, 0)
                .pass(2, 0, 99, 0, 1, 0, 0).then("sick(1, 0, 0)");
        left(r);
        left(r, "ask(4, 0)", 13, 12, 10, 22, 21, 20);
        left(r, "ask(4, 1)", 22, 21, 20);
        left(r, "ask(3, 1)", 23, 20, 14, 10);
        left(r, "ask(3, 0)", 14, 10);
        left(r, "ask(2, 0)", 12, 10, 21, 20);
        left(r, "ask(2, 1)", 21, 20);
        left(r, "ask(1, 0)", 11, 10);
        left(r, "ask(1, 1)", 20);
        left(r, "ask(0, 0)", 10);
        left(r, "ask(0, 1)", 20);
        left(r, "ask(4, 0)", 13, 12, 10, 22, 21, 20);
        // Refused, it changes nothing; and no other call leaves anything.
        r.dueAll(BAD, "ask(5, 0)", "ask(0, 2)", "ask(-1, 1)")
                .then("kind(3)", "as(3, 4)", "lets(3, 9, 0, 0)", "count(5)");
        left(r, 13, 12, 10, 22, 21, 20);
        r.dueAll(NONE, "trace(-1)", "trace(7)", "trace(15)", "trace(16)", "trace(MAX)", "trace(MIN)", "trace(NONE)");
    }

    private static void left(Run r, String ask, int... bodies) {
        r.then(ask);
        left(r, bodies);
    }

    private static void left(Run r, int... bodies) {
        for (int i = 0; i < bodies.length; i++) {
            r.due("trace(" + i + ")", bodies[i]);
        }
        r.due("trace(" + bodies.length + ")", NONE).due("trace(" + (bodies.length + 1) + ")", NONE);
    }
}
