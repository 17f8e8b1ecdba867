/** Promises 6 to 8 and 23: bell, part, stands, dusk. */
public final class GatesTest {
    private static final Check CHECK = new Check("GatesTest");

    public static void main(String[] args) {
        bell();
        part();
        stands();
        dusk();
        CHECK.end();
    }

    private static void bell() {
        DuskGates x = new DuskGates();
        int[][] bad = {{-1, 0, 1}, {9, 0, 1}, {0, -1, 5}, {0, 0, 1441}, {0, 7, 7}, {0, 8, 7}, {0, 1440, 1440}};
        for (int[] b : bad) {
            CHECK.due("bell(" + b[0] + ", " + b[1] + ", " + b[2] + ")", x.bell(b[0], b[1], b[2]), DuskGates.BAD);
        }
        CHECK.due("bell(8, 0, 1440)", x.bell(8, 0, 1440), 1);
        CHECK.due("bell(0, 1439, 1440)", x.bell(0, 1439, 1440), 1);
        CHECK.due("open all day", x.dusk(0, 0, 0, 1), 8);
        CHECK.due("both open, the first", x.dusk(0, 0, 1439, 1), 0);
    }

    private static void part() {
        DuskGates x = new DuskGates();
        int[][] bad = {{-1, 1}, {9, 1}, {0, 0}, {0, 301}};
        for (int[] b : bad) {
            CHECK.due("part(" + b[0] + ", " + b[1] + ")", x.part(b[0], b[1]), DuskGates.BAD);
        }
        CHECK.due("part(8, 1)", x.part(8, 1), 100);
        CHECK.due("part(8, 300)", x.part(8, 300), 1);
        CHECK.due("part(8, 2)", x.part(8, 2), 300);
    }

    private static void stands() {
        DuskGates x = new DuskGates();
        int[][] bad = {{-1, 0, 0}, {9, 0, 0}, {0, -1, 0}, {0, 0, -1}, {0, 1000, 0}, {0, 0, 1000}};
        for (int[] b : bad) {
            CHECK.due("stands(" + b[0] + ", " + b[1] + ", " + b[2] + ")", x.stands(b[0], b[1], b[2]), DuskGates.BAD);
        }
        CHECK.due("stands(4, 999, 999)", x.stands(4, 999, 999), 1);
        CHECK.due("next to it", x.dusk(999, 900, 500, 1), 4);
    }

    private static void dusk() {
        DuskGates x = new DuskGates();
        int[][] bad = {{-1, 0, 0, 1}, {0, -1, 0, 1}, {1000, 0, 0, 1}, {0, 1000, 0, 1},
            {0, 0, -1, 1}, {0, 0, 1440, 1}, {0, 0, 0, 0}, {0, 0, 0, 61}};
        for (int[] b : bad) {
            CHECK.due("dusk of bad numbers", x.dusk(b[0], b[1], b[2], b[3]), DuskGates.BAD);
        }
        for (int g = 3; g <= 8; g++) {
            x.bell(g, 0, 1);
        }
        x.stands(0, 100, 100);
        x.stands(1, 200, 100);
        x.stands(2, 100, 300);
        CHECK.due("the nearest", x.dusk(190, 100, 500, 60), 1);
        CHECK.due("steps up and aside together", x.dusk(150, 260, 500, 60), 2);
        CHECK.due("as near to two, the first", x.dusk(150, 100, 500, 60), 0);
        CHECK.due("waiting at all, the first", x.dusk(190, 100, 0, 1), 0);
        x.bell(1, 350, 1080);
        CHECK.due("the one that opens first", x.dusk(100, 100, 0, 1), 1);
        x.bell(1, 350, 560);
        CHECK.due("cut towards 0: 199 steps by 30 are 59", x.dusk(399, 100, 500, 30), 1);
        CHECK.due("200 steps are 60: too late", x.dusk(400, 100, 500, 30), 0);
        CHECK.due("past the last bell", x.dusk(100, 100, 1080, 1), DuskGates.NONE);
        CHECK.due("by a minute in time", x.dusk(100, 100, 1079, 60), 0);
        CHECK.due("the bell rings on the way", x.dusk(100, 102, 1079, 60), DuskGates.NONE);
    }
}
