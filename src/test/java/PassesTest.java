/** Promises 18 to 22 and 32 to 37: road, sick, seal, canbe, lets, day, kind, as, ask, trace, count. */
public final class PassesTest {
    private static final Check CHECK = new Check("PassesTest");
    private static final int NONE = DuskGates.NONE, BAD = DuskGates.BAD, FULL = DuskGates.FULL;
    private static final int PASS = 0, TOLL = 1, HEALTH = 2, FORGED = 3, NIGHT = 4;

    public static void main(String[] args) {
        road();
        sick();
        seal();
        canbe();
        lets();
        letsOthers();
        kinds();
        forgedByDays();
        asks();
        count();
        CHECK.end();
    }

    private static void road() {
        DuskGates x = new DuskGates();
        int[][] bad = {{-1, 0, 1}, {8, 0, 1}, {0, -1, 1}, {0, 8, 1}, {3, 3, 1}, {0, 1, 0}, {0, 1, 61},
            {0, NONE, 0}, {0, NONE, 61}, {NONE, NONE, 1}, {NONE, 0, 1}, {8, NONE, 1}, {0, BAD, 1}};
        for (int[] b : bad) {
            CHECK.due("road(" + b[0] + ", " + b[1] + ", " + b[2] + ")", x.road(b[0], b[1], b[2]), BAD);
        }
        CHECK.due("road(0, 7, 60)", x.road(0, 7, 60), 5);
        CHECK.due("and back", x.road(7, 0, 1), 60);
        CHECK.due("and back again", x.road(0, 7, 2), 1);
        CHECK.due("road(7, NONE, 9)", x.road(7, NONE, 9), 5);
        CHECK.due("road(7, NONE, 8)", x.road(7, NONE, 8), 9);
        CHECK.due("road(0, NONE, 8)", x.road(0, NONE, 8), 5);
    }

    private static void sick() {
        DuskGates x = new DuskGates();
        int[][] bad = {{-1, 0, 0}, {8, 0, 0}, {0, -1, 0}, {0, 0, 1000}, {0, 2, 1}};
        for (int k = 0; k <= 20; k++) {
            for (int[] b : bad) {
                CHECK.due("a bad sick()", x.sick(b[0], b[1], b[2]), BAD);
            }
            CHECK.due("sick " + k, x.sick(7, 999, 999), k < 20 ? k + 1 : FULL);
        }
    }

    private static void seal() {
        DuskGates x = new DuskGates();
        CHECK.due("seal(8, 0)", x.seal(8, 0), BAD);
        CHECK.due("seal(0, 0)", x.seal(0, 0), Check.NULL);
        x.sheet(0, 0, 8);
        CHECK.due("seal(0, 2)", x.seal(0, 2), Check.PLACE);
        CHECK.due("seal(0, -1)", x.seal(0, -1), Check.PLACE);
        int[] highest = {3, 11, 99, 9, 7, 999, 999};
        for (int k = 0; k < 7; k++) {
            int[] items = highest.clone();
            items[k] = highest[k] + 1;
            CHECK.due("item " + k + " too high", Check.seal(x, items), BAD);
            items = new int[7];
            items[k] = -1;
            CHECK.due("item " + k + " too low", Check.seal(x, items), BAD);
        }
        CHECK.due("the last day ahead of the first", Check.seal(x, 0, 0, 0, 0, 0, 5, 4), BAD);
        CHECK.due("count(4)", x.count(4), 0);
        CHECK.due("the highest", Check.seal(x, highest), 0);
        CHECK.due("one day", Check.seal(x, 0, 0, 0, 0, 0, 5, 5), 1);
        for (int k = 2; k < 16; k++) {
            CHECK.due("seal " + k, x.seal(0, 1), k);
        }
        CHECK.due("the 17th", x.seal(0, 1), FULL);
        CHECK.due("the 17th of no sheet", x.seal(5, 1), FULL);
        CHECK.due("the 17th of a bad sheet", x.seal(-1, 1), BAD);
        CHECK.due("count(5) of 16", x.count(5), 0);
        CHECK.due("canbe(0) of 16, all of one town", x.canbe(0), 1);
        CHECK.due("kind(15)", x.kind(15), PASS);
        CHECK.due("ask(15, 1)", x.ask(15, 1), 0);
    }

    private static void canbe() {
        DuskGates x = new DuskGates();
        CHECK.due("canbe(-1)", x.canbe(-1), BAD);
        CHECK.due("canbe(12)", x.canbe(12), BAD);
        CHECK.due("canbe(11), of none", x.canbe(11), 1);
        Check.seal(x, 0, 11, 0, 0, 2, 20, 30);
        Check.seal(x, 1, 11, 0, 0, 2, 20, 30);
        CHECK.due("two of one town and day", x.canbe(11), 1);
        Check.seal(x, 2, 11, 0, 0, 3, 15, 30);
        CHECK.due("5 days apart", x.canbe(11), 1);
        x.road(3, 2, 6);
        CHECK.due("6 days of road", x.canbe(11), 0);
        x.road(2, 3, 5);
        CHECK.due("5 days of road", x.canbe(11), 1);
        Check.seal(x, 2, 10, 0, 0, 4, 16, 30);
        CHECK.due("of another person", x.canbe(11), 1);
        Check.seal(x, 3, 11, 0, 0, 4, 24, 30);
        CHECK.due("any two", x.canbe(11), 0);
        x.road(2, 4, 4);
        CHECK.due("near enough", x.canbe(11), 1);
    }

    private static void lets() {
        DuskGates x = new DuskGates();
        Check.seal(x, 0, 3, 1, 1, 2, 10, 20);
        int[][] bad = {{-1, 0, 0, 0}, {1, 0, 0, 0}, {0, -1, 0, 0}, {0, 1000, 0, 0}, {0, 0, -1, 0}, {0, 0, 9, 0},
            {0, 0, NONE, 0}, {0, 0, 0, -1}, {0, 0, 0, 1440}};
        for (int[] b : bad) {
            CHECK.due("a bad lets()", x.lets(b[0], b[1], b[2], b[3]), BAD);
        }
        CHECK.due("too early by the road", x.lets(0, 14, 0, 500), 0);
        CHECK.due("just by the road", x.lets(0, 15, 0, 500), 1);
        CHECK.due("the last day", x.lets(0, 20, 0, 500), 1);
        CHECK.due("a day later", x.lets(0, 21, 0, 500), 0);
        CHECK.due("ahead of the bell", x.lets(0, 15, 0, 359), 0);
        CHECK.due("at the bell", x.lets(0, 15, 0, 360), 1);
        CHECK.due("the last minute", x.lets(0, 15, 0, 1079), 1);
        CHECK.due("shut", x.lets(0, 15, 0, 1080), 0);
        x.bell(8, 0, 1440);
        CHECK.due("a gate that is open", x.lets(0, 15, 8, 1080), 1);
        x.road(2, NONE, 4);
        CHECK.due("a shorter road", x.lets(0, 14, 0, 500), 1);
        x.road(2, NONE, 60);
        CHECK.due("a long road", x.lets(0, 20, 0, 500), 0);
        x.road(2, NONE, 1);
        Check.laws(x, "from 12 ban 3; from 14 lift 3 ban 4 bad 2;");
        CHECK.due("no ban yet", x.lets(0, 11, 0, 500), 1);
        CHECK.due("a ban", x.lets(0, 12, 0, 500), 0);
        CHECK.due("a ban", x.lets(0, 13, 0, 500), 0);
        CHECK.due("lifted; a bad seal makes no forged one of a pass", x.lets(0, 14, 0, 500), 1);
    }

    private static void letsOthers() {
        DuskGates x = new DuskGates();
        Check.laws(x, "from 16 bad 2; from 18 good 2;");
        Check.seal(x, 2, 3, 1, 1, 2, 10, 20);
        Check.seal(x, 3, 3, 1, 1, 2, 10, 20);
        x.day(16);
        CHECK.due("good on that day", x.lets(0, 15, 0, 500), 1);
        CHECK.due("bad on that day", x.lets(0, 16, 0, 500), 0);
        CHECK.due("good again", x.lets(0, 18, 0, 500), 1);
        CHECK.due("a health one at night", x.lets(0, 18, 0, 1080), 0);
        CHECK.due("a night one at night", x.lets(1, 18, 0, 1439), 1);
        CHECK.due("a night one by a bad seal", x.lets(1, 16, 0, 0), 1);
        CHECK.due("a night one past its day", x.lets(1, 21, 0, 0), 0);
        CHECK.due("a night one too early", x.lets(1, 14, 0, 0), 0);
        x.sick(2, 10, 10);
        CHECK.due("forged", x.lets(0, 18, 0, 500), 0);
        CHECK.due("a night one of a sick town", x.lets(1, 18, 0, 500), 1);
    }

    private static void kinds() {
        DuskGates x = new DuskGates();
        CHECK.due("kind(0) of none", x.kind(0), BAD);
        CHECK.due("kind(-1)", x.kind(-1), BAD);
        Check.seal(x, 0, 0, 10, 1, 0, 5, 9);
        Check.seal(x, 1, 0, 20, 1, 0, 5, 9);
        Check.seal(x, 2, 0, 30, 1, 0, 5, 9);
        Check.seal(x, 3, 0, 40, 1, 0, 5, 9);
        Check.seal(x, 2, 0, 10, 1, 0, 5, 9);
        Check.seal(x, 2, 0, 20, 2, 0, 5, 9);
        Check.seal(x, 0, 0, 30, 9, 0, 5, 9);
        Check.seal(x, 2, 0, 50, 3, 1, 6, 9);
        int[] kinds = {PASS, TOLL, HEALTH, NIGHT, HEALTH, FORGED, PASS, HEALTH};
        int[] seals = {10, 20, 30, 40, 10, 20, 30, 50};
        for (int p = 0; p < 8; p++) {
            CHECK.due("kind(" + p + ")", x.kind(p), kinds[p]);
            for (int kind = 0; kind <= 4; kind++) {
                boolean such = kind == PASS || kind == kinds[p] || kind == HEALTH && kinds[p] == FORGED;
                CHECK.due("as(" + p + ", " + kind + ")", x.as(p, kind), such ? seals[p] : Check.KIND);
                CHECK.due("status()", x.status(), such ? 0 : 3);
            }
        }
        CHECK.due("kind(8)", x.kind(8), BAD);
        CHECK.due("as(8, 0)", x.as(8, 0), BAD);
        CHECK.due("as(-1, 0)", x.as(-1, 0), BAD);
        CHECK.due("as(0, -1)", x.as(0, -1), BAD);
        CHECK.due("as(0, 5)", x.as(0, 5), BAD);
        x.sick(1, 7, 8);
        x.sick(1, 2, 5);
        x.sick(2, 6, 6);
        CHECK.due("sick on other days", x.kind(7), HEALTH);
        x.sick(1, 6, 6);
        CHECK.due("sick on the day it was given", x.kind(7), FORGED);
        x.sick(0, 0, 999);
        CHECK.due("a toll of a sick town", x.kind(1), TOLL);
    }

    private static void forgedByDays() {
        DuskGates x = new DuskGates();
        Check.seal(x, 2, 0, 1, 1, 4, 5, 9);
        Check.laws(x, "from 3 bad 4; from 6 good 4;");
        CHECK.due("day(1000)", x.day(1000), BAD);
        CHECK.due("day(-1)", x.day(-1), BAD);
        int[][] due = {{0, HEALTH}, {2, HEALTH}, {3, FORGED}, {5, FORGED}, {6, HEALTH}, {999, HEALTH}};
        int was = 0;
        for (int[] d : due) {
            CHECK.due("day(" + d[0] + ")", x.day(d[0]), was);
            was = d[0];
            CHECK.due("kind(0) on " + d[0], x.kind(0), d[1]);
            CHECK.due("count(5)", x.count(5), 1);
            CHECK.due("count(6)", x.count(6), d[1] == FORGED ? 1 : 0);
            CHECK.due("as(0, 3)", x.as(0, FORGED), d[1] == FORGED ? 1 : Check.KIND);
            CHECK.due("as(0, 2)", x.as(0, HEALTH), 1);
        }
    }

    private static void asks() {
        DuskGates x = new DuskGates();
        CHECK.due("ask(0, 0) of none", x.ask(0, 0), BAD);
        Check.seal(x, 0, 5, 11, 1, 3, 10, 17);
        Check.seal(x, 1, 5, 12, 1, 3, 10, 17);
        Check.seal(x, 2, 5, 13, 1, 3, 10, 17);
        Check.seal(x, 2, 5, 13, 4, 3, 10, 17);
        Check.seal(x, 3, 5, 14, 1, 3, 10, 17);
        asked(x, 0, 0, 7, 10);
        asked(x, 0, 1, 11, 20);
        asked(x, 1, 0, 14, 11, 10);
        asked(x, 1, 1, 12, 20);
        asked(x, 2, 0, 7 + 313, 12, 10, 21, 20);
        asked(x, 2, 1, 313, 21, 20);
        asked(x, 3, 0, -(7 + 317), 13, 12, 10, 22, 21, 20);
        asked(x, 3, 1, 317, 22, 21, 20);
        asked(x, 4, 0, 12, 14, 10);
        asked(x, 4, 1, 14 + 12, 23, 20, 14, 10);
        CHECK.due("ask(5, 0)", x.ask(5, 0), BAD);
        CHECK.due("ask(0, 2)", x.ask(0, 2), BAD);
        CHECK.due("ask(0, -1)", x.ask(0, -1), BAD);
        CHECK.due("the trace stays", x.trace(3), 10);
        CHECK.due("trace(-1)", x.trace(-1), NONE);
        CHECK.due("trace(16)", x.trace(16), NONE);
        CHECK.due("trace(MAX)", x.trace(Integer.MAX_VALUE), NONE);
        CHECK.due("trace(MIN)", x.trace(Integer.MIN_VALUE), NONE);
        Check.laws(x, "from 2 bad 3;");
        x.day(2);
        asked(x, 2, 0, -(7 + 314), 13, 12, 10, 22, 21, 20);
    }

    private static void asked(DuskGates x, int pass, int what, int due, int... bodies) {
        CHECK.due("ask(" + pass + ", " + what + ")", x.ask(pass, what), due);
        for (int i = 0; i <= bodies.length; i++) {
            CHECK.due("trace(" + i + ")", x.trace(i), i < bodies.length ? bodies[i] : NONE);
        }
    }

    private static void count() {
        DuskGates x = new DuskGates();
        CHECK.due("count(-1)", x.count(-1), BAD);
        CHECK.due("count(9)", x.count(9), BAD);
        Check.laws(x, "from 0 wheel 1 wheel 2;");
        Check.cart(x, 0, 0, 0, 0, 0, 0, 0, 0, 0);
        Check.cart(x, 0, 0, 0, 0, 0, 0, 0, 0, 0);
        Check.cart(x, 0, 0, 0, 0, 0, 0, 0, 0, 0);
        for (int k = 0; k < 4; k++) {
            x.pass(0, 1, 0, 0, 0, 0);
        }
        for (int k = 0; k < 5; k++) {
            Check.seal(x, k == 0 ? 1 : 2, 0, k / 3, k, 0, 0, 0);
        }
        x.fell(0, 1);
        x.fell(0, 0);
        x.fell(7, 0);
        x.feed(0, 6);
        int[] due = {1, 2, 3, 4, 5, 4, 3, 2, 6};
        for (int what = 0; what < due.length; what++) {
            CHECK.due("count(" + what + ")", x.count(what), due[what]);
        }
    }
}
