/** Promises 9 to 12: feed, laws, fault, holds. */
public final class LawsTest {
    private static final Check CHECK = new Check("LawsTest");

    public static void main(String[] args) {
        feed();
        faults();
        reading();
        fullTape();
        tooMany();
        holds();
        CHECK.end();
    }

    private static void feed() {
        DuskGates x = new DuskGates();
        CHECK.due("feed(0, 0)", x.feed(0, 0), DuskGates.BAD);
        CHECK.due("feed(0, 9)", x.feed(0, 9), DuskGates.BAD);
        CHECK.due("feed(0, -1)", x.feed(0, -1), DuskGates.BAD);
        CHECK.due("feed of spaces", x.feed(0x2020202020202020L, 8), 8);
        for (int k = 2; k <= 49; k++) {
            x.feed(0x2020202020202020L, 8);
        }
        CHECK.due("feed to 399", x.feed(0x20202020202020L, 7), 399);
        CHECK.due("feed beyond 400", x.feed(0x2020, 2), DuskGates.FULL);
        CHECK.due("count(8)", x.count(8), 399);
        CHECK.due("the 400th", x.feed(0x20, 1), 400);
        CHECK.due("the 401st", x.feed(0x20, 1), DuskGates.FULL);
        CHECK.due("laws() of blanks", x.laws(), 0);
        CHECK.due("count(8) behind laws()", x.count(8), 0);
        CHECK.due("only the lowest bytes come", x.feed(0x4141414120202020L, 4), 4);
        CHECK.due("laws()", x.laws(), 0);
        x.feed(0x2041L, 2);
        CHECK.due("the highest first", x.laws(), -1000101);
        x.feed(0xFFL, 1);
        CHECK.due("a byte above 127", x.laws(), -1000100);
    }

    private static void faults() {
        fault("fro 5 wheel 1;", 0, 1);
        fault("froma 5 wheel 1;", 0, 1);
        fault(";", 0, 1);
        fault("5", 0, 1);
        fault("From 5 wheel 1;", 0, 1);
        fault(" \n from", 7, 1);
        fault("from  \n", 7, 1);
        fault("from wheel 1;", 5, 1);
        fault("from ;", 5, 1);
        fault("from 1000 x", 5, 2);
        fault("from 9999 x", 5, 2);
        fault("from 00001 wheel 1;", 5, 1);
        fault("from 5 ;", 7, 1);
        fault("from 5 from 6 wheel 1;", 7, 1);
        fault("from 5 6;", 7, 1);
        fault("from 5 wheel;", 12, 1);
        fault("from 5 wheel -1;", 13, 1);
        fault("from 5 wheel 1000;", 13, 2);
        fault("from 5 toll 7 1000;", 14, 2);
        fault("from 5 toll 8 1000;", 12, 2);
        fault("from 5 toll 7;", 13, 1);
        fault("from 5 free 8 1;", 12, 2);
        fault("from 5 free 7 1000;", 14, 2);
        fault("from 5 free 7 x;", 14, 1);
        fault("from 5 good 8;", 12, 2);
        fault("from 5 bad 8;", 11, 2);
        fault("from 5 ban 12;", 11, 2);
        fault("from 5 lift 12;", 12, 2);
        fault("from 5 lift 11", 14, 1);
        fault("from 5 lift 11  ", 16, 1);
        fault("from 5 lift 11; x", 16, 1);
        fault("from 5 lift 11 : ", 15, 1);
        fault("from 5 wheel 1 from 6 wheel 2;", 15, 1);
        fault("from 5 wheel 1\twheel 2;", 14, 1);
    }

    private static void fault(String text, int place, int number) {
        DuskGates x = new DuskGates();
        Check.laws(x, "from 0 wheel 3;");
        CHECK.due("laws() of '" + text + "'", Check.laws(x, text), -1000100 - place);
        CHECK.due("fault() of '" + text + "'", x.fault(), number);
        CHECK.due("count(1)", x.count(1), 1);
        CHECK.due("count(8)", x.count(8), 0);
        CHECK.due("holds(999, 0)", x.holds(999, 0), 3);
    }

    private static void reading() {
        DuskGates x = new DuskGates();
        CHECK.due("tokens side by side", Check.laws(x, "from5wheel7toll0 3;from\n0006bad7;"), 3);
        CHECK.due("holds(5, 0)", x.holds(5, 0), 7);
        CHECK.due("holds(5, 10)", x.holds(5, 10), 3);
        CHECK.due("holds(6, 37)", x.holds(6, 37), 0);
        CHECK.due("a fault", Check.laws(x, "from 5 wheel 1; from 5 wheel x;"), -1000129);
        CHECK.due("none of the text comes", x.count(1), 3);
        CHECK.due("holds(5, 0) as it was", x.holds(5, 0), 7);
        CHECK.due("fault()", x.fault(), 1);
        CHECK.due("a sound text", Check.laws(x, "from 999 wheel 999;"), 4);
        CHECK.due("fault() stays the latest", x.fault(), 1);
        CHECK.due("an empty text", x.laws(), 4);
    }

    private static void fullTape() {
        String[] ends = {"from 5 wheel 1;", "from 5 wheel 1", "from 5 wheel", "from 5 wheel 12345", "from 5 ",
            "from\n"};
        int[] due = {1, -1000500, -1000500, -1000495, -1000500, -1000500};
        for (int k = 0; k < ends.length; k++) {
            DuskGates x = new DuskGates();
            String text = " ".repeat(400 - ends[k].length()) + ends[k];
            CHECK.due("feed of 400", Check.feed(x, text), 400);
            CHECK.due("laws() of '" + ends[k] + "' at the end of a full tape", x.laws(), due[k]);
        }
        DuskGates x = new DuskGates();
        CHECK.due("400 signs", Check.laws(x, ";".repeat(400)), -1000100);
        CHECK.due("as many laws as fit", Check.laws(x, "from0ban0;".repeat(40)), -1000100 - 305);
        CHECK.due("fault()", x.fault(), 3);
        CHECK.due("thirty", Check.laws(x, "from0ban0;".repeat(30)), 30);
    }

    private static void tooMany() {
        DuskGates x = new DuskGates();
        String ten = "from 1 wheel 1 wheel 2 wheel 3 wheel 4 wheel 5 wheel 6 wheel 7 wheel 8 wheel 9 wheel 10;";
        CHECK.due("ten", Check.laws(x, ten), 10);
        CHECK.due("twenty", Check.laws(x, ten), 20);
        CHECK.due("thirty and one", Check.laws(x, ten + "from 2 ban 99;"), -1000100 - ten.length() - 7);
        CHECK.due("fault()", x.fault(), 3);
        CHECK.due("count(1)", x.count(1), 20);
        CHECK.due("thirty", Check.laws(x, ten), 30);
        CHECK.due("a word that is none goes ahead", Check.laws(x, "from 2 bane 1;"), -1000107);
        CHECK.due("fault()", x.fault(), 1);
        CHECK.due("a day goes ahead", Check.laws(x, "from 2000 ban 1;"), -1000105);
        CHECK.due("fault()", x.fault(), 2);
        CHECK.due("the 31st", Check.laws(x, "from 2 ban 1;"), -1000107);
        CHECK.due("fault()", x.fault(), 3);
        CHECK.due("an empty text", Check.laws(x, " "), 30);
    }

    private static void holds() {
        DuskGates x = new DuskGates();
        int[] bad = {-1, 1, 9, 18, 19, 28, 29, 38, 39, 52, DuskGates.NONE};
        for (int what : bad) {
            CHECK.due("holds(0, " + what + ")", x.holds(0, what), DuskGates.BAD);
        }
        CHECK.due("holds(-1, 0)", x.holds(-1, 0), DuskGates.BAD);
        CHECK.due("holds(1000, 0)", x.holds(1000, 0), DuskGates.BAD);
        for (int what = 0; what <= 51; what++) {
            if (what == 0 || what >= 10 && what % 10 < 8 && what < 40 || what >= 40) {
                CHECK.due("holds(999, " + what + ")", x.holds(999, what), what >= 30 && what < 40 ? 1 : 0);
            }
        }
        Check.laws(x, "from 20 wheel 5 toll 7 9 free 7 4 bad 7 ban 11;");
        Check.laws(x, "from 10 wheel 6 toll 7 8 free 7 3 bad 7 ban 11;");
        Check.laws(x, "from 20 wheel 7 good 7 lift 11; from 10 good 7;");
        int[][] due = {
            {9, 0, 0}, {10, 0, 6}, {19, 0, 6}, {20, 0, 7}, {999, 0, 7},
            {9, 17, 0}, {10, 17, 8}, {19, 17, 8}, {20, 17, 9},
            {9, 27, 0}, {10, 27, 3}, {19, 27, 3}, {20, 27, 4},
            {9, 37, 1}, {10, 37, 1}, {20, 37, 1},
            {9, 51, 0}, {10, 51, 1}, {19, 51, 1}, {20, 51, 0},
            {999, 16, 0}, {999, 26, 0}, {999, 36, 1}, {999, 50, 0}};
        for (int[] d : due) {
            CHECK.due("holds(" + d[0] + ", " + d[1] + ")", x.holds(d[0], d[1]), d[2]);
        }
    }
}
