/** Promises 13 to 17: cart, owed, pass, agree, amiss. */
public final class CartsTest {
    private static final Check CHECK = new Check("CartsTest");

    public static void main(String[] args) {
        cart();
        owed();
        pass();
        agree();
        amiss();
        CHECK.end();
    }

    private static void cart() {
        DuskGates x = new DuskGates();
        CHECK.due("cart(8, 0)", x.cart(8, 0), DuskGates.BAD);
        CHECK.due("cart(-1, 0)", x.cart(-1, 0), DuskGates.BAD);
        CHECK.due("cart(0, 0)", x.cart(0, 0), Check.NULL);
        x.sheet(0, 2, 10);
        CHECK.due("cart(0, -1)", x.cart(0, -1), Check.PLACE);
        CHECK.due("cart(0, 2)", x.cart(0, 2), Check.PLACE);
        CHECK.due("cart(0, MAX)", x.cart(0, Integer.MAX_VALUE), Check.PLACE);
        CHECK.due("five wheels", Check.cart(x, 5, 0, 0, 0, 0, 0, 0, 0, 0), DuskGates.BAD);
        CHECK.due("wheels below 0", Check.cart(x, -1, 0, 0, 0, 0, 0, 0, 0, 0), DuskGates.BAD);
        CHECK.due("100 measures", Check.cart(x, 0, 0, 0, 0, 0, 0, 0, 0, 100), DuskGates.BAD);
        CHECK.due("measures below 0", Check.cart(x, 0, -1, 0, 0, 0, 0, 0, 0, 0), DuskGates.BAD);
        CHECK.due("count(2)", x.count(2), 0);
        for (int k = 0; k < 16; k++) {
            CHECK.due("cart " + k, Check.cart(x, 4, 99, 99, 99, 99, 99, 99, 99, 99), k);
        }
        CHECK.due("the 17th", x.cart(0, 0), DuskGates.FULL);
        CHECK.due("the 17th of no sheet", x.cart(6, 0), DuskGates.FULL);
        CHECK.due("the 17th of a bad sheet", x.cart(8, 0), DuskGates.BAD);
        CHECK.due("count(2)", x.count(2), 16);
        Check.laws(x, "from 0 wheel 3;");
        CHECK.due("owed by the last", x.owed(15, 8, 999), 12);
        CHECK.due("least of the last", x.owed(15, DuskGates.NONE, 999), 0);
        for (int k = 0; k < 60; k++) {
            x.pass(k % 16, k / 16 & 1, 8, 999 - k, 1439 - k, k);
        }
        CHECK.due("agree(0)", x.agree(0), 60);
        CHECK.due("agree(1)", x.agree(1), 0);
        CHECK.due("agree(2)", x.agree(2), 4);
        CHECK.due("amiss of all", x.amiss(DuskGates.NONE, 0, 999), 28 * 12 - (16 + 31) * 8 - (48 + 59) * 6);
    }

    private static void owed() {
        DuskGates x = new DuskGates();
        Check.cart(x, 3, 10, 5, 0, 0, 0, 0, 0, 99);
        CHECK.due("owed(-1, 0, 0)", x.owed(-1, 0, 0), DuskGates.BAD);
        CHECK.due("owed(1, 0, 0)", x.owed(1, 0, 0), DuskGates.BAD);
        CHECK.due("owed(0, -1, 0)", x.owed(0, -1, 0), DuskGates.BAD);
        CHECK.due("owed(0, 9, 0)", x.owed(0, 9, 0), DuskGates.BAD);
        CHECK.due("owed(0, 0, 1000)", x.owed(0, 0, 1000), DuskGates.BAD);
        CHECK.due("owed(0, NONE, -1)", x.owed(0, DuskGates.NONE, -1), DuskGates.BAD);
        CHECK.due("without laws", x.owed(0, 0, 0), 0);
        Check.laws(x, "from 5 wheel 7 toll 0 2 toll 1 3 toll 7 999 free 7 99; from 6 free 0 10; from 7 free 0 9;");
        CHECK.due("day 4", x.owed(0, 0, 4), 0);
        CHECK.due("day 5", x.owed(0, 0, 5), 3 * 7 + 10 * 2 + 5 * 3);
        CHECK.due("day 6, ware 0 goes free", x.owed(0, 0, 6), 3 * 7 + 5 * 3);
        CHECK.due("day 7, all of ware 0 owes", x.owed(0, 0, 7), 3 * 7 + 10 * 2 + 5 * 3);
        x.part(3, 33);
        CHECK.due("56 by 33 of 100 is 18", x.owed(0, 3, 5), 18);
        CHECK.due("least at 3", x.owed(0, DuskGates.NONE, 5), 3);
        x.part(2, 34);
        CHECK.due("56 by 34 of 100 is 19", x.owed(0, 2, 5), 19);
        x.part(2, 32);
        x.part(1, 32);
        CHECK.due("17 at both, the first", x.owed(0, DuskGates.NONE, 5), 1);
        CHECK.due("of 0 at all the first", x.owed(0, DuskGates.NONE, 4), 0);
        x.part(1, 33);
        x.part(2, 100);
        x.part(3, 32);
        CHECK.due("17 at the third", x.owed(0, DuskGates.NONE, 5), 3);
        DuskGates y = new DuskGates();
        Check.laws(y, "from 0 wheel 999 toll 0 999 toll 1 999 toll 2 999 toll 3 999 toll 4 999 toll 5 999"
                + " toll 6 999 toll 7 999;");
        Check.cart(y, 4, 99, 99, 99, 99, 99, 99, 99, 99);
        y.part(0, 300);
        CHECK.due("the most", y.owed(0, 0, 0), 3 * 999 * (4 + 8 * 99));
        Check.cart(y, 1, 0, 0, 0, 0, 0, 0, 0, 0);
        DuskGates z = new DuskGates();
        Check.laws(z, "from 0 wheel 1;");
        Check.cart(z, 1, 0, 0, 0, 0, 0, 0, 0, 0);
        z.part(5, 99);
        z.part(6, 1);
        CHECK.due("both cut to 0, the first", z.owed(0, DuskGates.NONE, 0), 5);
    }

    private static void pass() {
        DuskGates x = new DuskGates();
        CHECK.due("of no cart", x.pass(0, 1, 0, 0, 0, 0), DuskGates.BAD);
        Check.cart(x, 0, 0, 0, 0, 0, 0, 0, 0, 0);
        int[][] bad = {{-1, 1, 0, 0, 0, 0}, {1, 1, 0, 0, 0, 0}, {0, -1, 0, 0, 0, 0}, {0, 2, 0, 0, 0, 0},
            {0, 1, -1, 0, 0, 0}, {0, 1, 9, 0, 0, 0}, {0, 1, DuskGates.NONE, 0, 0, 0}, {0, 1, 0, -1, 0, 0},
            {0, 1, 0, 1000, 0, 0}, {0, 1, 0, 0, -1, 0}, {0, 1, 0, 0, 1440, 0}, {0, 1, 0, 0, 0, -1},
            {0, 1, 0, 0, 0, 100001}};
        for (int k = 0; k <= 60; k++) {
            for (int[] b : bad) {
                CHECK.due("a bad passing", x.pass(b[0], b[1], b[2], b[3], b[4], b[5]), DuskGates.BAD);
            }
            CHECK.due("passing " + k, x.pass(0, k & 1, 8, 999, 1439, 100000), k < 60 ? k + 1 : DuskGates.FULL);
        }
        CHECK.due("count(3)", x.count(3), 60);
        CHECK.due("paid by those in", x.amiss(8, 999, 999), -3000000);
    }

    private static void agree() {
        DuskGates x = new DuskGates();
        CHECK.due("agree(-1)", x.agree(-1), DuskGates.BAD);
        CHECK.due("agree(3)", x.agree(3), DuskGates.BAD);
        Check.cart(x, 0, 0, 0, 0, 0, 0, 0, 0, 0);
        Check.cart(x, 0, 0, 0, 0, 0, 0, 0, 0, 0);
        agreed(x, 0, 0, 0);
        x.pass(0, 0, 0, 10, 500, 0);
        agreed(x, 1, 0, 1);
        x.pass(0, 1, 0, 10, 500, 0);
        agreed(x, 1, 1, 0);
        x.pass(0, 1, 0, 9, 1079, 0);
        agreed(x, 0, 1, 0);
        x.pass(0, 0, 0, 9, 360, 0);
        agreed(x, 1, 1, 0);
        x.pass(1, 0, 0, 11, 1080, 0);
        agreed(x, 2, 1, 1);
        x.pass(1, 1, 0, 11, 359, 0);
        agreed(x, 3, 1, 0);
        x.bell(0, 359, 1081);
        agreed(x, 1, 1, 0);
        x.pass(1, 0, 0, 12, 400, 0);
        agreed(x, 2, 1, 1);
        x.pass(0, 0, 0, 12, 400, 0);
        x.pass(0, 0, 0, 12, 400, 0);
        agreed(x, 3, 0, 2);
    }

    private static void agreed(DuskGates x, int wrong, int in, int lost) {
        CHECK.due("agree(0)", x.agree(0), wrong);
        CHECK.due("agree(1)", x.agree(1), in);
        CHECK.due("agree(2)", x.agree(2), lost);
    }

    private static void amiss() {
        DuskGates x = new DuskGates();
        int[][] bad = {{-1, 0, 0}, {9, 0, 0}, {0, -1, 0}, {0, 0, 1000}, {0, 1000, 1000}, {0, 1, 0},
            {DuskGates.NONE, 1, 0}, {DuskGates.BAD, 0, 0}};
        for (int[] b : bad) {
            CHECK.due("a bad amiss()", x.amiss(b[0], b[1], b[2]), DuskGates.BAD);
        }
        Check.laws(x, "from 0 wheel 10; from 5 wheel 20;");
        Check.cart(x, 2, 0, 0, 0, 0, 0, 0, 0, 0);
        x.part(1, 50);
        x.pass(0, 1, 0, 4, 500, 3);
        x.pass(0, 1, 1, 5, 500, 30);
        x.pass(0, 1, 1, 6, 2, 0);
        x.pass(0, 0, 1, 5, 600, 9);
        CHECK.due("gate 0", x.amiss(0, 0, 999), 20 - 3);
        CHECK.due("gate 1, paid too much", x.amiss(1, 5, 5), 20 - 30);
        CHECK.due("gate 1, a wrong one counts", x.amiss(1, 5, 6), 20 - 30 + 20);
        CHECK.due("all", x.amiss(DuskGates.NONE, 4, 5), 17 - 10);
        CHECK.due("all but the first day", x.amiss(DuskGates.NONE, 5, 999), 10);
        CHECK.due("days without any", x.amiss(DuskGates.NONE, 7, 999), 0);
    }
}
