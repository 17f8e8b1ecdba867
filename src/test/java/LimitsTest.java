/**
 * Every number of every call, one by one: just below and just above what the document allows it is BAD and changes
 * nothing; the least and the most that it allows are not BAD.
 */
public final class LimitsTest {
    private static final Check CHECK = new Check("LimitsTest");
    private static final Refused LIVELY = new Refused(CHECK, LimitsTest::town);
    private static final int BAD = Run.BAD;

    public static void main(String[] args) {
        sheets();
        gatesAndLaws();
        carts();
        passes();
        rest();
        asked();
        items();
        CHECK.end();
    }

    private static Run town() {
        return Town.lively(CHECK, "BAD (a number is not as told; there is no such thing)");
    }

    /** Of the call's # the least and the most that are as told. */
    private static void limits(String call, int least, int most) {
        limitsOrNone(call, least, most);
        bad(call, Run.NONE);
    }

    /** NONE is told for something here, too. */
    private static void limitsOrNone(String call, int least, int most) {
        for (int v : new int[] {least, Math.min(least + 1, most), Math.max(most - 1, least), most}) {
            good(call, v);
        }
        for (int v : new int[] {least - 1, most + 1, Integer.MIN_VALUE, Integer.MAX_VALUE, BAD}) {
            bad(call, v);
        }
    }

    private static void good(String call, int v) {
        String told = call.replace("#", Integer.toString(v));
        CHECK.due(told + " is BAD", town().say(told) == BAD ? 1 : 0, 0);
    }

    private static void bad(String call, int v) {
        LIVELY.due(call.replace("#", Integer.toString(v)), BAD);
    }

    /** Of two days, the later one may not be below the earlier one. */
    private static void days(String call) {
        limits(call.replace("@", "999"), 0, 999);
        limits(call.replace("@", "500"), 0, 500);
        limits(call.replace("@", "0"), 0, 0);
        String later = call.replace("#", "%").replace("@", "#");
        limits(later.replace("%", "0"), 0, 999);
        limits(later.replace("%", "500"), 500, 999);
        limits(later.replace("%", "999"), 999, 999);
    }

    private static void sheets() {
        limits("sheet(#, 0, 5)", 0, 7);
        limits("sheet(#, 0, -1)", 0, 7);
        limits("sheet(0, #, 5)", 0, 2);
        limits("sheet(0, #, -1)", 0, 2);
        for (int n : new int[] {-1, 0, 1, 63, 64}) {
            good("sheet(0, 0, #)", n);
        }
        bad("sheet(0, 0, #)", 65);
        bad("sheet(0, 0, #)", Integer.MAX_VALUE);
        limits("set(#, 0, 0)", 0, 7);
        limits("copy(#, 0, 0, 0, 0)", 0, 7);
        limits("copy(0, 0, #, 0, 0)", 0, 7);
        limits("drop(#)", 0, 7);
    }

    private static void gatesAndLaws() {
        limits("bell(#, 1, 1440)", 0, 8);
        limits("bell(0, #, 1440)", 0, 1439);
        limits("bell(0, #, 500)", 0, 499);
        limits("bell(0, 0, #)", 1, 1440);
        limits("bell(0, 500, #)", 501, 1440);
        limits("bell(0, 1439, #)", 1440, 1440);
        bad("bell(0, 1440, #)", 1440);
        bad("bell(0, 1440, #)", 1441);
        limits("part(#, 7)", 0, 8);
        limits("part(0, #)", 1, 300);
        limits("stands(#, 7, 7)", 0, 8);
        limits("stands(0, #, 7)", 0, 999);
        limits("stands(0, 7, #)", 0, 999);
        limits("feed(9090, #)", 1, 8);
        limits("holds(#, 0)", 0, 999);
        limits("holds(#, 51)", 0, 999);
        for (int what = -1; what <= 60; what++) {
            boolean told = what == 0 || what >= 10 && what <= 17 || what >= 20 && what <= 27
                    || what >= 30 && what <= 37 || what >= 40 && what <= 51;
            if (told) {
                good("holds(0, #)", what);
            } else {
                bad("holds(0, #)", what);
            }
        }
    }

    private static void carts() {
        limits("cart(#, 0)", 0, 7);
        limits("owed(#, 0, 0)", 0, 1);
        limits("owed(#, NONE, 0)", 0, 1);
        limitsOrNone("owed(0, #, 0)", 0, 8);
        good("owed(0, #, 0)", Run.NONE);
        limits("owed(0, 0, #)", 0, 999);
        limits("owed(0, NONE, #)", 0, 999);
        limits("pass(#, 1, 0, 0, 0, 0)", 0, 1);
        limits("pass(0, #, 0, 0, 0, 0)", 0, 1);
        limits("pass(0, 1, #, 0, 0, 0)", 0, 8);
        limits("pass(0, 1, 0, #, 0, 0)", 0, 999);
        limits("pass(0, 1, 0, 0, #, 0)", 0, 1439);
        limits("pass(0, 1, 0, 0, 0, #)", 0, 100000);
        limits("agree(#)", 0, 2);
        limitsOrNone("amiss(#, 0, 0)", 0, 8);
        good("amiss(#, 0, 0)", Run.NONE);
        days("amiss(0, #, @)");
        days("amiss(NONE, #, @)");
    }

    private static void passes() {
        limits("road(#, NONE, 7)", 0, 7);
        limits("road(#, 0, 7)", 1, 7);
        limits("road(#, 7, 7)", 0, 6);
        limitsOrNone("road(0, #, 7)", 1, 7);
        limitsOrNone("road(7, #, 7)", 0, 6);
        good("road(7, #, 7)", Run.NONE);
        limits("road(0, 1, #)", 1, 60);
        limits("road(0, NONE, #)", 1, 60);
        for (int town = 0; town <= 7; town++) {
            bad("road(" + town + ", #, 7)", town);
        }
        limits("sick(#, 0, 0)", 0, 7);
        days("sick(0, #, @)");
        limits("seal(#, 9)", 0, 7);
        limits("canbe(#)", 0, 11);
        limits("lets(#, 0, 0, 0)", 0, 4);
        limits("lets(0, #, 0, 0)", 0, 999);
        limits("lets(0, 0, #, 0)", 0, 8);
        limits("lets(0, 0, 0, #)", 0, 1439);
        limits("dusk(#, 0, 0, 1)", 0, 999);
        limits("dusk(0, #, 0, 1)", 0, 999);
        limits("dusk(0, 0, #, 1)", 0, 1439);
        limits("dusk(0, 0, 0, #)", 1, 60);
    }

    private static void rest() {
        limits("clerks(#, 16, 2, 5, 3, 0)", 0, 7);
        limits("clerks(0, 16, #, 5, 3, 0)", 1, 20);
        limits("clerks(0, 16, 2, #, 3, 0)", 1, 60);
        limits("clerks(0, 16, 2, 5, #, 0)", 1, 8);
        limits("clerks(0, 16, 2, 5, 3, #)", 0, 4);
        limits("guest(#, 0, 0, 0)", 0, 11);
        limits("guest(0, #, 0, 0)", 0, 7);
        days("guest(0, 0, #, @)");
        limits("fell(#, 0)", 0, 7);
        limits("fell(2, #)", 0, 999);
        limits("brought(#)", 0, 2);
        limits("high(#, 7)", 0, 11);
        limits("high(0, #)", 1, 99);
        limits("lean(#, 7, 7)", 0, 11);
        limits("lean(0, #, 7)", 0, 99);
        limits("lean(0, 7, #)", 0, 99);
        limits("watch(#, 0, 1)", 0, 7);
        limits("watch(0, 0, #)", 1, 12);
    }

    private static void asked() {
        limits("day(#)", 0, 999);
        limits("kind(#)", 0, 4);
        limits("as(#, 0)", 0, 4);
        limits("as(0, #)", 0, 4);
        limits("ask(#, 0)", 0, 4);
        limits("ask(0, #)", 0, 1);
        limits("count(#)", 0, 8);
    }

    private static void items() {
        item("cart(0, 0)", 0, 0, 4);
        for (int k = 1; k <= 8; k++) {
            item("cart(0, 0)", k, 0, 99);
        }
        item("seal(0, 9)", 9, 0, 3);
        item("seal(0, 9)", 10, 0, 11);
        item("seal(0, 9)", 11, 0, 99);
        item("seal(0, 9)", 12, 0, 9);
        item("seal(0, 9)", 13, 0, 7);
        item("seal(0, 9)", 14, 0, 60);
        item("seal(0, 9)", 15, 12, 999);
        item("clerks(0, 16, 2, 5, 3, 0)", 16, 0, 3);
        item("clerks(0, 16, 2, 5, 3, 0)", 17, 0, 1439);
        item("clerks(0, 16, 2, 5, 3, 0)", 18, 0, 3);
        item("clerks(0, 16, 2, 5, 3, 0)", 19, 0, 1439);
        for (int k = 0; k < 12; k++) {
            item("watch(0, 0, 12)", k, 0, 4095);
        }
    }

    /** ITEM k of SHEET 0, which the call reads. */
    private static void item(String call, int k, int least, int most) {
        for (int v : new int[] {least, most}) {
            String set = "set(0, " + k + ", " + v + ")";
            CHECK.due(call + " is BAD behind " + set, town().then(set).say(call) == BAD ? 1 : 0, 0);
        }
        for (int v : new int[] {least - 1, most + 1, Integer.MIN_VALUE, Integer.MAX_VALUE}) {
            LIVELY.due(call, BAD, "set(0, " + k + ", " + v + ")");
        }
    }
}
