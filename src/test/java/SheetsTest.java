/** Promises 1 to 5 and 38: a new object, sheets, and status(). */
public final class SheetsTest {
    private static final Check CHECK = new Check("SheetsTest");

    public static void main(String[] args) {
        newObject();
        sheet();
        set();
        copy();
        drop();
        status();
        CHECK.end();
    }

    private static void newObject() {
        DuskGates x = new DuskGates();
        for (int what = 0; what <= 8; what++) {
            CHECK.due("count(" + what + ")", x.count(what), 0);
        }
        CHECK.due("status()", x.status(), 0);
        CHECK.due("fault()", x.fault(), 0);
        CHECK.due("day(5)", x.day(5), 0);
        for (int g = 0; g <= 8; g++) {
            CHECK.due("part(" + g + ", 7)", x.part(g, 7), 100);
        }
        CHECK.due("breaches()", x.breaches(), 0);
        for (int l = 0; l <= 11; l++) {
            CHECK.due("high(" + l + ", 7)", x.high(l, 7), 10);
        }
        for (int a = 0; a <= 7; a++) {
            CHECK.due("road(" + a + ", NONE, 60)", x.road(a, DuskGates.NONE, 60), 5);
            for (int b = 0; b < a; b++) {
                CHECK.due("road(" + a + ", " + b + ", 60)", x.road(a, b, 60), 5);
            }
        }
        CHECK.due("dusk at 359", x.dusk(0, 0, 359, 1), 0);
        CHECK.due("dusk at 1079", x.dusk(0, 0, 1079, 1), 0);
        CHECK.due("dusk at 1080", x.dusk(0, 0, 1080, 1), DuskGates.NONE);
        for (int s = 0; s <= 7; s++) {
            CHECK.due("drop(" + s + ")", x.drop(s), Check.NULL);
        }
        CHECK.due("trace(0)", x.trace(0), DuskGates.NONE);
        CHECK.due("brought(0)", x.brought(0), 0);
    }

    private static void sheet() {
        DuskGates x = new DuskGates();
        CHECK.due("sheet(8, 0, 1)", x.sheet(8, 0, 1), DuskGates.BAD);
        CHECK.due("sheet(-1, 0, 1)", x.sheet(-1, 0, 1), DuskGates.BAD);
        CHECK.due("sheet(0, -1, 1)", x.sheet(0, -1, 1), DuskGates.BAD);
        CHECK.due("sheet(0, 3, -1)", x.sheet(0, 3, -1), DuskGates.BAD);
        CHECK.due("sheet(0, 2, 65)", x.sheet(0, 2, 65), DuskGates.BAD);
        CHECK.due("sheet(0, 2, MIN)", x.sheet(0, 2, Integer.MIN_VALUE), Check.SIZE);
        CHECK.due("count(0)", x.count(0), 0);
        CHECK.due("sheet(7, 2, 64)", x.sheet(7, 2, 64), 64);
        CHECK.due("sheet(0, 1, 0)", x.sheet(0, 1, 0), 0);
        CHECK.due("count(0)", x.count(0), 2);
        x.set(7, 3, 9);
        CHECK.due("sheet anew", x.sheet(7, 2, 4), 4);
        x.sheet(6, 2, 1);
        CHECK.due("copy of what was set ahead", x.copy(7, 3, 6, 0, 1), 1);
        x.sheet(7, 2, 7);
        CHECK.due("its items are 0 again", Check.seal(x, 0, 0, 0, 0, 0, 0, 0), 0);
        CHECK.due("sheet refused", x.sheet(7, 0, -5), Check.SIZE);
        CHECK.due("what was there stays", x.drop(7), 7);
    }

    private static void set() {
        DuskGates x = new DuskGates();
        CHECK.due("set(8, 0, 0)", x.set(8, 0, 0), DuskGates.BAD);
        CHECK.due("set(0, 0, 0)", x.set(0, 0, 0), Check.NULL);
        int[][] cuts = {
            {0, 127, 127}, {0, 128, -128}, {0, 255, -1}, {0, 256, 0}, {0, -129, 127},
            {1, 32767, 32767}, {1, 32768, -32768}, {1, 65536, 0}, {1, -1, -1},
            {2, Integer.MAX_VALUE, Integer.MAX_VALUE}, {2, Integer.MIN_VALUE, Integer.MIN_VALUE}};
        for (int[] cut : cuts) {
            x.sheet(0, cut[0], 3);
            CHECK.due("set of lane " + cut[0] + " to " + cut[1], x.set(0, 2, cut[1]), cut[2]);
        }
        CHECK.due("set(0, 3, 0)", x.set(0, 3, 0), Check.PLACE);
        CHECK.due("set(0, -1, 0)", x.set(0, -1, 0), Check.PLACE);
        x.sheet(0, 2, 0);
        CHECK.due("set of an empty one", x.set(0, 0, 0), Check.PLACE);
    }

    private static void copy() {
        DuskGates x = new DuskGates();
        x.sheet(0, 2, 5);
        CHECK.due("copy(0, 0, 8, 0, 0)", x.copy(0, 0, 8, 0, 0), DuskGates.BAD);
        CHECK.due("copy(-1, 0, 0, 0, 0)", x.copy(-1, 0, 0, 0, 0), DuskGates.BAD);
        CHECK.due("copy(0, 0, 1, 9, 9)", x.copy(0, 0, 1, 9, 9), Check.NULL);
        CHECK.due("copy(1, 0, 0, 0, 0)", x.copy(1, 0, 0, 0, 0), Check.NULL);
        x.sheet(1, 1, 5);
        CHECK.due("two lanes, and no place", x.copy(0, 9, 1, 9, 9), Check.STORE);
        CHECK.due("two lanes, none copied", x.copy(0, 0, 1, 0, 0), Check.STORE);
        x.sheet(1, 2, 3);
        CHECK.due("copy(0, 5, 1, 3, 0)", x.copy(0, 5, 1, 3, 0), 0);
        CHECK.due("copy(0, 6, 1, 0, 0)", x.copy(0, 6, 1, 0, 0), Check.PLACE);
        CHECK.due("copy(0, 0, 1, 4, 0)", x.copy(0, 0, 1, 4, 0), Check.PLACE);
        CHECK.due("copy(0, -1, 1, 0, 1)", x.copy(0, -1, 1, 0, 1), Check.PLACE);
        CHECK.due("copy(0, 0, 1, -1, 1)", x.copy(0, 0, 1, -1, 1), Check.PLACE);
        CHECK.due("copy(0, 0, 1, 0, -1)", x.copy(0, 0, 1, 0, -1), Check.PLACE);
        CHECK.due("copy(0, 0, 1, 0, 4)", x.copy(0, 0, 1, 0, 4), Check.PLACE);
        CHECK.due("copy(0, MAX, 1, 0, MAX)",
                x.copy(0, Integer.MAX_VALUE, 1, 0, Integer.MAX_VALUE), Check.PLACE);
        overlaps(1);
        overlaps(-1);
    }

    /** Passes made of items that were moved over themselves show that they came as they were ahead. */
    private static void overlaps(int by) {
        DuskGates x = new DuskGates();
        Check.lay(x, 0, 0, 1, 2, 3, 4, 5, 6, 9);
        CHECK.due("copy over itself by " + by, x.copy(0, 1, 0, 1 + by, 6), 6);
        CHECK.due("seal of it", x.seal(0, 0), 0);
        CHECK.due("its seal", x.as(0, 0), by > 0 ? 1 : 3);
        CHECK.due("its size", x.ask(0, 0), by > 0 ? 5 - 4 : 2 * (6 - 6));
        x.seal(0, 1);
        CHECK.due("the seal one place on", x.as(1, 0), by > 0 ? 2 : 4);
    }

    private static void drop() {
        DuskGates x = new DuskGates();
        CHECK.due("drop(8)", x.drop(8), DuskGates.BAD);
        x.sheet(3, 0, 12);
        CHECK.due("drop(3)", x.drop(3), 12);
        CHECK.due("drop(3) again", x.drop(3), Check.NULL);
        CHECK.due("count(0)", x.count(0), 0);
        x.sheet(3, 0, 0);
        CHECK.due("drop of an empty one", x.drop(3), 0);
    }

    private static void status() {
        DuskGates x = new DuskGates();
        x.set(0, 0, 0);
        CHECK.due("status() behind NULL", x.status(), 1);
        x.sheet(9, 0, 0);
        CHECK.due("status() behind BAD", x.status(), 1);
        x.count(0);
        x.bell(0, 0, 1);
        CHECK.due("status() behind calls without a sheet", x.status(), 1);
        x.sheet(0, 2, 9);
        CHECK.due("status() behind one without a finding", x.status(), 0);
        x.set(0, 9, 0);
        CHECK.due("status() behind PLACE", x.status(), 2);
        CHECK.due("cart(0, 0)", x.cart(0, 0), 0);
        CHECK.due("status() behind cart()", x.status(), 0);
        x.seal(0, 0);
        x.as(0, 1);
        CHECK.due("status() behind KIND", x.status(), 3);
        x.as(1, 1);
        CHECK.due("status() behind a BAD as()", x.status(), 3);
        x.as(0, 0);
        CHECK.due("status() behind as()", x.status(), 0);
        x.sheet(0, 2, -1);
        CHECK.due("status() behind SIZE", x.status(), 4);
        x.set(0, 0, 99);
        x.sheet(1, 1, 1);
        x.copy(0, 0, 1, 0, 1);
        CHECK.due("status() behind STORE", x.status(), 5);
        x.cart(0, 0);
        CHECK.due("status() behind a BAD item", x.status(), 5);
        x.clerks(0, 0, 1, 1, 1, 0);
        CHECK.due("status() behind a BAD arrival", x.status(), 5);
        x.set(0, 0, 0);
        x.set(0, 99, 0);
        x.clerks(0, 0, 1, 1, 1, 0);
        CHECK.due("status() behind clerks()", x.status(), 0);
        x.drop(5);
        x.lean(0, 99, 99);
        CHECK.due("watch() of NONE", x.watch(0, 0, 1), DuskGates.NONE);
        CHECK.due("status() behind NONE", x.status(), 0);
        x.drop(5);
        for (int k = 0; k < 16; k++) {
            x.seal(0, 1);
        }
        CHECK.due("seal() of the 17th", x.seal(0, 1), DuskGates.FULL);
        x.drop(5);
        x.seal(0, 1);
        CHECK.due("status() behind FULL", x.status(), 1);
    }
}
