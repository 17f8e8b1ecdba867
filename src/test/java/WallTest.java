/** Promises 28 to 31: high, lean, breaches, watch. */
public final class WallTest {
    private static final Check CHECK = new Check("WallTest");
    private static final int NONE = DuskGates.NONE, BAD = DuskGates.BAD;

    public static void main(String[] args) {
        high();
        lean();
        breaches();
        watchRefusals();
        covers();
        CHECK.end();
    }

    private static void high() {
        DuskGates x = new DuskGates();
        int[][] bad = {{-1, 1}, {12, 1}, {0, 0}, {0, 100}};
        for (int[] b : bad) {
            CHECK.due("high(" + b[0] + ", " + b[1] + ")", x.high(b[0], b[1]), BAD);
        }
        CHECK.due("high(11, 99)", x.high(11, 99), 10);
        CHECK.due("high(11, 1)", x.high(11, 1), 99);
        CHECK.due("high(11, 2)", x.high(11, 2), 1);
    }

    private static void lean() {
        DuskGates x = new DuskGates();
        int[][] bad = {{-1, 0, 0}, {12, 0, 0}, {0, -1, 0}, {0, 100, 0}, {0, 0, -1}, {0, 0, 100}};
        for (int k = 0; k <= 20; k++) {
            for (int[] b : bad) {
                CHECK.due("a bad lean()", x.lean(b[0], b[1], b[2]), BAD);
            }
            CHECK.due("house " + k, x.lean(11, 0, 99), k < 20 ? k + 1 : DuskGates.FULL);
        }
        CHECK.due("breaches()", x.breaches(), 0);
        CHECK.due("one too many", x.lean(11, 99, 99), DuskGates.FULL);
        CHECK.due("it does not lean", x.breaches(), 0);
    }

    private static void breaches() {
        int[][] due = {{10, 8, 6, 1}, {10, 7, 6, 0}, {10, 8, 5, 0}, {99, 97, 95, 1}, {99, 96, 95, 0}, {99, 97, 94, 0},
            {4, 2, 0, 1}, {3, 1, 0, 1}, {3, 0, 0, 0}, {2, 0, 0, 1}, {1, 0, 0, 1}, {5, 3, 0, 0}};
        for (int[] d : due) {
            DuskGates x = new DuskGates();
            x.high(11, d[0]);
            x.lean(11, d[1], d[2]);
            CHECK.due("breaches of " + d[0] + ", " + d[1] + ", " + d[2], x.breaches(), d[3] << 11);
        }
        DuskGates x = new DuskGates();
        x.lean(0, 8, 0);
        CHECK.due("inside alone", x.breaches(), 0);
        x.lean(0, 0, 6);
        CHECK.due("by two houses", x.breaches(), 1);
        x.high(0, 11);
        CHECK.due("higher", x.breaches(), 0);
        x.high(1, 2);
        CHECK.due("low, and none leans on it", x.breaches(), 2);
    }

    private static void watchRefusals() {
        DuskGates x = new DuskGates();
        int[][] bad = {{-1, 0, 1}, {8, 0, 1}, {0, 0, 0}, {0, 0, 13}, {0, 0, -1}};
        for (int[] b : bad) {
            CHECK.due("a bad watch()", x.watch(b[0], b[1], b[2]), BAD);
        }
        CHECK.due("of no sheet", x.watch(0, 0, 12), Check.NULL);
        Check.lay(x, 0, 4096, 4095, -1);
        CHECK.due("no place", x.watch(0, 0, 4), Check.PLACE);
        CHECK.due("no place", x.watch(0, 3, 1), Check.PLACE);
        CHECK.due("no place", x.watch(0, -1, 1), Check.PLACE);
        CHECK.due("no place", x.watch(0, Integer.MAX_VALUE, 2), Check.PLACE);
        CHECK.due("4096", x.watch(0, 0, 2), BAD);
        CHECK.due("-1", x.watch(0, 1, 2), BAD);
        CHECK.due("nothing to watch", x.watch(0, 1, 1), 0);
    }

    private static void covers() {
        DuskGates x = new DuskGates();
        for (int l = 0; l < 12; l++) {
            x.lean(l, 99, 99);
        }
        CHECK.due("breaches()", x.breaches(), 4095);
        Check.lay(x, 0, 1, 2, 4, 8, 16, 32, 64, 128, 256, 512, 1024, 2048, 4095, 2047, 3);
        CHECK.due("all twelve", x.watch(0, 0, 12), 4095);
        CHECK.due("one too few", x.watch(0, 0, 11), NONE);
        CHECK.due("one for all", x.watch(0, 1, 12), 2048);
        CHECK.due("two", x.watch(0, 11, 3), 2);
        CHECK.due("by twos", x.watch(0, 13, 2), NONE);
        x.high(11, 99);
        x.lean(11, 0, 0);
        CHECK.due("still passed", x.breaches(), 4095);
        DuskGates y = new DuskGates();
        y.lean(0, 99, 99);
        y.lean(1, 99, 99);
        y.lean(2, 99, 99);
        Check.lay(y, 0, 1, 6, 3, 4, 4088, 2 + 4088);
        CHECK.due("of several the least number", y.watch(0, 0, 4), 3);
        CHECK.due("from 1 on", y.watch(0, 1, 3), 3);
        CHECK.due("from 2 on", y.watch(0, 2, 2), 3);
        CHECK.due("from 3 on", y.watch(0, 3, 3), NONE);
    }
}
