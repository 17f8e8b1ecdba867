import java.util.ArrayList;
import java.util.List;

/** Two towns with something of everything, and questions that show all that a town holds. */
final class Town {
    private Town() {
    }

    /** A town in which nothing is full; its status() is 3. */
    static Run lively(Check check, String sentence) {
        Run r = new Run(check, sentence);
        r.text("from 10 wheel 4 toll 0 3 free 1 2 bad 1 ban 3; from 20 good 1 lift 3;").then("laws()");
        r.text("from 1000 ").then("laws()").text("from 5 wheel 9;");
        r.then("bell(1, 300, 500)", "bell(2, 0, 1440)", "stands(1, 100, 0)", "stands(2, 0, 300)", "part(1, 50)",
                "part(8, 300)");
        r.lay(0, 4, 5, 0, 0, 0, 0, 0, 0, 7, 2, 3, 7, 2, 1, 12, 60, 0, 10, 1, 12);
        r.layShorts(1, 3, 1, 9, 3, 2, 14, 30);
        r.then("sheet(2, 0, 0)", "sheet(4, 0, 3)", "set(4, 0, 1)", "set(4, 1, 9)", "set(4, 2, -7)");
        r.then("cart(0, 0)", "set(0, 0, 2)", "cart(0, 0)", "set(0, 0, 4)");
        r.then("pass(0, 1, 0, 12, 400, 10)", "pass(0, 0, 1, 12, 499, 0)", "pass(1, 0, 2, 21, 1400, 0)",
                "pass(1, 1, 8, 13, 300, 7)", "pass(0, 0, 0, 13, 1080, 3)");
        r.then("seal(0, 9)", "set(0, 12, 5)", "seal(0, 9)", "set(0, 12, 2)", "seal(1, 0)", "set(1, 0, 1)", "seal(1, 0)",
                "set(1, 0, 0)", "seal(1, 0)", "set(1, 0, 3)");
        r.then("road(1, 2, 9)", "road(1, NONE, 3)", "sick(2, 25, 30)", "sick(1, 0, 3)");
        r.then("guest(0, 0, 1, 5)", "guest(1, 0, 8, 9)", "guest(2, 1, 3, 4)", "guest(0, 1, 12, 20)", "fell(0, 12)",
                "fell(1, 14)");
        r.then("high(3, 4)", "lean(3, 2, 0)", "lean(0, 8, 5)", "lean(0, 0, 6)", "lean(1, 8, 5)", "day(15)", "ask(1, 0)",
                "as(0, 1)");
        return r;
    }

    /** A town in which all is full that can be; its status() is 1. */
    static Run full(Check check, String sentence) {
        Run r = new Run(check, sentence);
        r.text("from0ban0;".repeat(30)).then("laws()").text(" ".repeat(400));
        r.lay(0, 4, 99, 0, 0, 0, 0, 0, 0, 99, 2, 3, 7, 2, 1, 12, 60);
        for (int k = 0; k < 16; k++) {
            r.then("cart(0, 0)", "seal(0, 9)");
        }
        for (int k = 0; k < 60; k++) {
            r.then("pass(" + k % 16 + ", " + k % 3 % 2 + ", 8, " + (999 - k) + ", 1079, " + k + ")");
        }
        for (int k = 0; k < 20; k++) {
            r.then("sick(2, " + k + ", 999)", "lean(11, 0, 99)");
        }
        for (int k = 0; k < 40; k++) {
            r.then("guest(" + k % 12 + ", " + k % 8 + ", " + k + ", " + k + ")");
        }
        return r.then("fell(7, 25)", "drop(5)");
    }

    /** Questions whose answers show what the town holds. The first is status(); the last ones change the town. */
    static List<String> questions() {
        List<String> all = new ArrayList<>(List.of("status()", "fault()", "breaches()"));
        upTo(all, "trace(#)", 7);
        upTo(all, "count(#)", 9);
        upTo(all, "agree(#)", 3);
        upTo(all, "brought(#)", 3);
        upTo(all, "canbe(#)", 4);
        upTo(all, "kind(#)", 5);
        upTo(all, "lets(#, 25, 1, 499)", 3);
        upTo(all, "lets(#, 17, 0, 1080)", 3);
        all.addAll(List.of("amiss(NONE, 0, 999)", "amiss(8, 13, 13)", "owed(0, 0, 12)", "owed(1, 8, 25)",
                "owed(0, NONE, 12)", "dusk(0, 0, 0, 1)", "dusk(0, 0, 350, 9)", "dusk(60, 0, 400, 60)",
                "dusk(9, 0, 1079, 60)", "dusk(0, 1, 1080, 60)", "holds(9, 0)", "holds(10, 0)", "holds(12, 10)",
                "holds(12, 21)", "holds(19, 31)", "holds(20, 31)", "holds(19, 43)", "holds(20, 43)", "holds(0, 40)"));
        all.addAll(List.of("watch(4, 0, 2)", "clerks(0, 16, 2, 5, 3, 1)", "cart(0, 0)", "owed(2, 0, 15)", "seal(0, 9)",
                "ask(5, 0)", "seal(1, 0)", "ask(6, 1)", "copy(4, 0, 4, 1, 2)", "watch(4, 0, 3)"));
        upTo(all, "set(#, 0, 70000)", 8);
        upTo(all, "drop(#)", 8);
        all.addAll(List.of("day(0)", "laws()", "holds(5, 0)", "pass(0, 1, 0, 14, 500, 0)", "agree(0)",
                "sick(1, 12, 12)",
                "guest(3, 1, 4, 4)", "fell(0, 11)", "lean(1, 0, 6)", "breaches()", "road(1, 2, 1)", "road(0, 2, 1)",
                "road(3, NONE, 1)", "road(1, NONE, 1)"));
        upTo(all, "part(#, 1)", 9);
        upTo(all, "high(#, 1)", 12);
        return all;
    }

    private static void upTo(List<String> all, String call, int bound) {
        for (int k = 0; k < bound; k++) {
            all.add(call.replace("#", Integer.toString(k)));
        }
    }
}
