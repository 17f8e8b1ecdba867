/** Promise 24: clerks. */
public final class ClerksTest {
    private static final Check CHECK = new Check("ClerksTest");
    private static final int NONE = DuskGates.NONE, BAD = DuskGates.BAD;

    public static void main(String[] args) {
        refusals();
        queues();
        ties();
        CHECK.end();
    }

    private static void refusals() {
        DuskGates x = new DuskGates();
        int[][] bad = {{-1, 0, 1, 1, 1, 0}, {8, 0, 1, 1, 1, 0}, {0, 0, 0, 1, 1, 0}, {0, 0, 21, 1, 1, 0},
            {0, 0, 1, 0, 1, 0}, {0, 0, 1, 61, 1, 0}, {0, 0, 1, 1, 0, 0}, {0, 0, 1, 1, 9, 0}, {0, 0, 1, 1, 1, -1},
            {0, 0, 1, 1, 1, 5}};
        for (int[] b : bad) {
            CHECK.due("bad clerks()", x.clerks(b[0], b[1], b[2], b[3], b[4], b[5]), BAD);
        }
        CHECK.due("of no sheet", x.clerks(0, 0, 1, 1, 1, 0), Check.NULL);
        Check.lay(x, 0, 0, 0, 3, 1439, 4);
        CHECK.due("no place", x.clerks(0, 1, 3, 1, 1, 0), Check.PLACE);
        CHECK.due("no place", x.clerks(0, -1, 1, 1, 1, 0), Check.PLACE);
        CHECK.due("no place", x.clerks(0, Integer.MAX_VALUE, 20, 1, 1, 0), Check.PLACE);
        CHECK.due("the last two", x.clerks(0, 2, 1, 1, 1, 4), 1);
        CHECK.due("a minute for a gate", x.clerks(0, 3, 1, 1, 1, 0), BAD);
        x.set(0, 0, 4);
        CHECK.due("gate 4", x.clerks(0, 0, 2, 1, 2, 0), BAD);
        x.set(0, 0, -1);
        CHECK.due("gate -1", x.clerks(0, 0, 2, 1, 2, 0), BAD);
        x.set(0, 0, 0);
        x.set(0, 1, -1);
        CHECK.due("minute -1", x.clerks(0, 0, 2, 1, 2, 0), BAD);
        x.set(0, 1, 1440);
        CHECK.due("minute 1440, even with too few", x.clerks(0, 0, 2, 1, 1, 0), BAD);
        x.set(0, 1, 1439);
        CHECK.due("too few", x.clerks(0, 0, 2, 1, 1, 0), NONE);
        CHECK.due("too few", x.clerks(0, 0, 2, 1, 1, 4), NONE);
    }

    private static void queues() {
        DuskGates x = new DuskGates();
        // Not told by minutes: 10, 12, 12, 20 at gate 2.
        Check.lay(x, 0, 2, 20, 2, 12, 2, 10, 2, 12);
        best(x, 4, 5, 1, 3 + 8 + 5, 0, 0, 1, 0);
        best(x, 4, 5, 2, 3, 0, 0, 2, 0);
        best(x, 4, 5, 3, 0, 0, 0, 3, 0);
        best(x, 4, 5, 8, 0, 5, 0, 3, 0);
        best(x, 4, 60, 1, 58 + 118 + 170, 0, 0, 1, 0);
        best(x, 4, 1, 1, 1, 0, 0, 1, 0);
        // Twenty at one minute at the end of the day.
        int[] items = new int[40];
        for (int k = 0; k < 20; k++) {
            items[2 * k] = 3;
            items[2 * k + 1] = 1439;
        }
        Check.lay(x, 0, items);
        best(x, 20, 60, 1, 60 * 190, 0, 0, 0, 1);
        best(x, 20, 60, 8, 60 * (8 + 2 * 4), 0, 0, 0, 8);
    }

    private static void ties() {
        DuskGates x = new DuskGates();
        Check.lay(x, 0, 3, 5, 3, 5, 1, 5, 1, 5);
        best(x, 4, 7, 2, 14, 0, 1, 0, 1);
        best(x, 4, 7, 3, 7, 0, 2, 0, 1);
        best(x, 4, 7, 4, 0, 0, 2, 0, 2);
        best(x, 4, 7, 6, 0, 2, 2, 0, 2);
        best(x, 2, 7, 3, 0, 1, 0, 0, 2);
    }

    private static void best(DuskGates x, int n, int k, int c, int... due) {
        for (int what = 0; what <= 4; what++) {
            String call = "clerks of " + n + ", " + k + ", " + c + ", " + what;
            CHECK.due(call, x.clerks(0, 0, n, k, c, what), due[what]);
        }
    }
}
