/** Promises 25 to 27: guest, fell, brought. */
public final class GuestsTest {
    private static final Check CHECK = new Check("GuestsTest");
    private static final int NONE = DuskGates.NONE, BAD = DuskGates.BAD;

    public static void main(String[] args) {
        guest();
        fell();
        days();
        sets();
        CHECK.end();
    }

    private static void guest() {
        DuskGates x = new DuskGates();
        int[][] bad = {{-1, 0, 0, 0}, {12, 0, 0, 0}, {0, -1, 0, 0}, {0, 8, 0, 0}, {0, 0, -1, 0}, {0, 0, 0, 1000},
            {0, 0, 1, 0}};
        for (int k = 0; k <= 40; k++) {
            for (int[] b : bad) {
                CHECK.due("a bad guest()", x.guest(b[0], b[1], b[2], b[3]), BAD);
            }
            CHECK.due("guest " + k, x.guest(11, 7, 0, 999), k < 40 ? k + 1 : DuskGates.FULL);
        }
    }

    private static void fell() {
        DuskGates x = new DuskGates();
        int[][] bad = {{-1, 0}, {8, 0}, {0, -1}, {0, 1000}};
        for (int[] b : bad) {
            CHECK.due("fell(" + b[0] + ", " + b[1] + ")", x.fell(b[0], b[1]), BAD);
        }
        CHECK.due("fell(7, 999)", x.fell(7, 999), 1);
        CHECK.due("as early", x.fell(7, 999), 0);
        CHECK.due("earlier", x.fell(7, 998), 1);
        CHECK.due("later", x.fell(7, 999), 0);
        CHECK.due("the first day", x.fell(7, 0), 1);
        CHECK.due("the first day again", x.fell(7, 0), 0);
        CHECK.due("count(7)", x.count(7), 1);
        CHECK.due("fell(0, 0)", x.fell(0, 0), 1);
        CHECK.due("count(7)", x.count(7), 2);
    }

    private static void days() {
        int[][] due = {{29, 29, 0}, {30, 30, 1}, {38, 38, 1}, {39, 39, 0}, {0, 29, 0}, {0, 30, 1}, {38, 99, 1},
            {39, 99, 0}, {0, 999, 1}, {33, 34, 1}};
        for (int[] d : due) {
            DuskGates x = new DuskGates();
            x.guest(4, 2, d[0], d[1]);
            CHECK.due("brought(2) without a case", x.brought(2), 0);
            x.fell(2, 40);
            String days = " of " + d[0] + " to " + d[1];
            CHECK.due("brought(0)" + days, x.brought(0), d[2] == 1 ? 16 : NONE);
            CHECK.due("brought(1)" + days, x.brought(1), d[2] == 1 ? 16 : 0);
            CHECK.due("brought(2)" + days, x.brought(2), d[2] == 1 ? 16 : 0);
        }
        DuskGates x = new DuskGates();
        x.guest(0, 0, 0, 999);
        x.fell(0, 2);
        CHECK.due("two days ahead is day 0", x.brought(0), 1);
        x.fell(0, 1);
        CHECK.due("no such day", x.brought(0), NONE);
    }

    private static void sets() {
        DuskGates x = new DuskGates();
        CHECK.due("brought(-1)", x.brought(-1), BAD);
        CHECK.due("brought(3)", x.brought(3), BAD);
        for (int h = 0; h < 4; h++) {
            x.fell(h, 20);
        }
        CHECK.due("no guests", x.brought(0), NONE);
        x.guest(11, 0, 15, 15);
        x.guest(11, 1, 15, 15);
        x.guest(10, 2, 15, 15);
        x.guest(10, 3, 15, 15);
        told(x, 3072, 3072, 3072);
        x.guest(9, 2, 15, 15);
        x.guest(9, 3, 15, 15);
        told(x, 512 + 2048, 2048, 3584);
        x.guest(0, 1, 15, 15);
        x.guest(0, 2, 15, 15);
        x.guest(1, 0, 15, 15);
        x.guest(1, 3, 15, 15);
        told(x, 3, 0, 3587);
        x.fell(4, 20);
        told(x, NONE, 0, 3587);
        x.guest(1, 4, 15, 15);
        told(x, 3, 3, 3587);
        x.guest(5, 7, 15, 15);
        told(x, 3, 3, 3587);
    }

    private static void told(DuskGates x, int fewest, int sure, int may) {
        CHECK.due("brought(0)", x.brought(0), fewest);
        CHECK.due("brought(1)", x.brought(1), sure);
        CHECK.due("brought(2)", x.brought(2), may);
    }
}
