/**
 * "Refusals are answers, the first of these that fits: BAD .., STATE .., FULL .., then FINDINGS, of several the first
 * in time .. What is refused, or found, changes nothing but status()."
 */
public final class RefusedTest {
    private static final Check CHECK = new Check("RefusedTest");
    private static final Refused LIVELY = new Refused(CHECK, () -> Town.lively(CHECK, "what is found"));
    private static final Refused FULL_TOWN = new Refused(CHECK, () -> Town.full(CHECK, "FULL (as told)"));
    private static final int NONE = Run.NONE, BAD = Run.BAD, FULL = Run.FULL;
    private static final int NULL = Run.NULL, PLACE = Run.PLACE, KIND = Run.KIND, SIZE = Run.SIZE, STORE = Run.STORE;

    public static void main(String[] args) {
        foundOfSheets();
        foundOfReaders();
        foundOfKinds();
        full();
        badAheadOfFull();
        fullAheadOfFindings();
        findingsAheadOfItems();
        itemsAheadOfNone();
        CHECK.end();
    }

    private static void foundOfSheets() {
        LIVELY.due("sheet(0, 0, -1)", SIZE);
        LIVELY.due("sheet(3, 2, -64)", SIZE);
        LIVELY.due("sheet(7, 1, MIN)", SIZE);
        LIVELY.due("set(3, 0, 1)", NULL);
        LIVELY.due("set(3, -1, 1)", NULL);
        LIVELY.due("set(0, -1, 1)", PLACE);
        LIVELY.due("set(0, 20, 1)", PLACE);
        LIVELY.due("set(0, MIN, 1)", PLACE);
        LIVELY.due("set(0, MAX, 1)", PLACE);
        LIVELY.due("set(2, 0, 1)", PLACE);
        LIVELY.due("drop(3)", NULL);
        LIVELY.due("copy(3, 0, 0, 0, 1)", NULL);
        LIVELY.due("copy(0, 0, 3, 0, 1)", NULL);
        LIVELY.due("copy(3, -1, 3, -1, -1)", NULL);
        LIVELY.due("copy(0, 0, 1, 0, 1)", STORE);
        LIVELY.due("copy(1, 0, 4, 0, 1)", STORE);
        LIVELY.due("copy(4, 0, 0, 0, 1)", STORE);
        LIVELY.due("copy(0, 0, 1, 0, 0)", STORE);
        LIVELY.due("copy(0, -1, 1, 99, -1)", STORE);
        String[] places = {"-1, 0, 0, 1", "0, 0, -1, 1", "0, 0, 1, -1", "20, 0, 0, 1", "0, 0, 20, 1", "0, 0, 0, 21",
            "1, 0, 0, 20", "0, 0, 1, 20", "21, 0, 0, 0", "0, 0, 21, 0", "-1, 0, 0, 0", "0, 0, -1, 0", "MAX, 0, 0, 1",
            "0, 0, MAX, 1", "1, 0, 0, MAX", "0, 0, 1, MAX", "MAX, 0, MAX, MAX", "MIN, 0, 0, MIN", "0, 0, MIN, MIN",
            "0, 0, 0, MIN"};
        for (String place : places) {
            // The second number is SHEET b, the third its place.
            LIVELY.due("copy(0, " + place + ")", PLACE);
        }
        LIVELY.due("copy(4, 0, 2, 0, 1)", PLACE);
        LIVELY.due("copy(2, 0, 4, 0, 1)", PLACE);
    }

    private static void foundOfReaders() {
        LIVELY.due("cart(3, 0)", NULL);
        LIVELY.due("cart(3, -1)", NULL);
        LIVELY.due("seal(3, 0)", NULL);
        LIVELY.due("seal(3, MAX)", NULL);
        LIVELY.due("clerks(3, -1, 1, 1, 1, 0)", NULL);
        LIVELY.due("watch(3, -1, 1)", NULL);
        for (String i : new String[] {"-1", "12", "20", "MAX", "MIN", "2147483639", "2147483640"}) {
            LIVELY.due("cart(0, " + i + ")", PLACE);
        }
        for (String i : new String[] {"-1", "14", "20", "MAX", "MIN", "2147483641", "2147483642"}) {
            LIVELY.due("seal(0, " + i + ")", PLACE);
        }
        for (String i : new String[] {"-1", "17", "20", "MAX", "MIN", "2147483644", "2147483645"}) {
            LIVELY.due("clerks(0, " + i + ", 2, 5, 3, 0)", PLACE);
        }
        for (String i : new String[] {"-1", "18", "20", "MAX", "MIN", "2147483645", "2147483646"}) {
            LIVELY.due("watch(0, " + i + ", 3)", PLACE);
        }
        LIVELY.due("cart(2, 0)", PLACE);
        LIVELY.due("seal(2, 0)", PLACE);
        LIVELY.due("clerks(2, 0, 1, 1, 1, 0)", PLACE);
        LIVELY.due("watch(2, 0, 1)", PLACE);
        LIVELY.due("clerks(1, 0, 4, 1, 8, 0)", PLACE);
        LIVELY.due("watch(1, 0, 8)", PLACE);
        LIVELY.due("cart(1, 0)", PLACE);
        LIVELY.due("seal(4, 0)", PLACE);
    }

    private static void foundOfKinds() {
        // On day 15 of the lively town PASSES 0 and 1 are FORGED, 2 is a NIGHT one, 3 a TOLL, 4 a PASS.
        String[] no = {"0, 1", "0, 4", "1, 1", "1, 4", "2, 1", "2, 2", "2, 3", "3, 2", "3, 3", "3, 4", "4, 1", "4, 2",
            "4, 3", "4, 4"};
        for (String told : no) {
            LIVELY.due("as(" + told + ")", KIND);
        }
        LIVELY.due("as(0, 3)", KIND, "day(20)");
    }

    private static void full() {
        FULL_TOWN.due("cart(0, 0)", FULL);
        FULL_TOWN.due("seal(0, 9)", FULL);
        FULL_TOWN.due("pass(15, 1, 0, 0, 500, 1)", FULL);
        FULL_TOWN.due("sick(1, 0, 999)", FULL);
        FULL_TOWN.due("guest(0, 7, 15, 23)", FULL);
        FULL_TOWN.due("lean(0, 99, 99)", FULL);
        for (int n = 1; n <= 8; n++) {
            FULL_TOWN.due("feed(59, " + n + ")", FULL);
        }
    }

    private static void badAheadOfFull() {
        String[] bad = {"cart(8, 0)", "cart(-1, 0)", "seal(8, 0)", "seal(-1, 0)", "pass(16, 1, 0, 0, 0, 0)",
            "pass(0, 2, 0, 0, 0, 0)", "pass(0, 1, 9, 0, 0, 0)", "pass(0, 1, 0, 1000, 0, 0)",
            "pass(0, 1, 0, 0, 1440, 0)",
            "pass(0, 1, 0, 0, 0, 100001)", "sick(8, 0, 0)", "sick(0, 1, 0)", "sick(0, -1, 0)", "sick(0, 0, 1000)",
            "guest(12, 0, 0, 0)", "guest(0, 8, 0, 0)", "guest(0, 0, 1, 0)", "guest(0, 0, -1, 0)",
            "guest(0, 0, 0, 1000)",
            "lean(12, 0, 0)", "lean(0, 100, 0)", "lean(0, 0, 100)", "feed(0, 0)", "feed(0, 9)"};
        for (String call : bad) {
            FULL_TOWN.due(call, BAD);
        }
    }

    private static void fullAheadOfFindings() {
        FULL_TOWN.due("cart(3, 0)", FULL);
        FULL_TOWN.due("seal(3, 0)", FULL);
        FULL_TOWN.due("cart(0, -1)", FULL);
        FULL_TOWN.due("seal(0, 64)", FULL);
        FULL_TOWN.due("cart(0, 0)", FULL, "set(0, 0, 5)");
        FULL_TOWN.due("seal(0, 9)", FULL, "set(0, 9, 4)");
    }

    private static void findingsAheadOfItems() {
        LIVELY.due("cart(0, 12)", PLACE, "set(0, 12, 5)", "set(0, 13, -1)");
        LIVELY.due("seal(0, 14)", PLACE, "set(0, 14, 4)");
        LIVELY.due("clerks(0, 17, 2, 5, 3, 0)", PLACE, "set(0, 17, 4)");
        LIVELY.due("watch(0, 18, 3)", PLACE, "set(0, 18, -1)");
    }

    private static void itemsAheadOfNone() {
        LIVELY.due("clerks(0, 16, 2, 5, 1, 0)", BAD, "set(0, 19, 1440)");
        LIVELY.due("watch(0, 16, 1)", BAD, "set(0, 16, 4096)");
        new Run(CHECK, "NONE is no refusal").lay(0, 0, 10, 1, 12).then("drop(5)").due("status()", 1)
                .due("clerks(0, 0, 2, 5, 1, 0)", NONE).due("status()", 0);
    }
}
