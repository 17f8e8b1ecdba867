/** Sentence by sentence: the BY-LAWS of part 1, promises 9 to 12. */
public final class EdgesLawsTest {
    private static final Check CHECK = new Check("EdgesLawsTest");
    private static final int BAD = Run.BAD, FULL = Run.FULL;
    private static final int[] TOPICS = {0, 10, 11, 12, 13, 14, 15, 16, 17, 20, 21, 22, 23, 24, 25, 26, 27,
        30, 31, 32, 33, 34, 35, 36, 37, 40, 41, 42, 43, 44, 45, 46, 47, 48, 49, 50, 51};

    public static void main(String[] args) {
        lowestBytes();
        room();
        emptied();
        names();
        numbers();
        signs();
        between();
        grammar();
        laws();
        values();
        thirty();
        topics();
        latestDay();
        toldLast();
        without();
        firstToken();
        leastFault();
        theEnd();
        latestFault();
        whats();
        CHECK.end();
    }

    private static Run run(String sentence) {
        return new Run(CHECK, sentence);
    }

    private static void lowestBytes() {
        // "from 7 ban 3; " told with bytes above those that come.
        run("The lowest n bytes of w (1 to 8), the highest of them first")
                .due("feed(" + 0x66726F6D20372062L + ", 8)", 8).due("feed(" + 0x7B7B7B7B7B7B616EL + ", 2)", 10)
                .due("feed(" + 0x7B7B7B7B7B203320L + ", 3)", 13).due("feed(" + 0xFFFFFFFFFFFFFF3BL + ", 1)", 14)
                .due("count(8)", 14).due("laws()", 1).due("holds(6, 43)", 0).due("holds(7, 43)", 1);
        for (int n = 1; n <= 8; n++) {
            Run r = run("The lowest n bytes of w (1 to 8)").due("feed(" + 0xC120202020202020L + ", " + n + ")", n);
            r.due("laws()", n == 8 ? -1000100 : 0);
        }
        for (int n = 1; n <= 8; n++) {
            // The lowest byte comes last.
            run("the highest of them first").due("feed(" + 0x202020202020203BL + ", " + n + ")", n)
                    .due("laws()", -1000100 - (n - 1));
        }
        run("how many it has. BAD: n").dueAll(BAD, "feed(32, 0)", "feed(32, 9)", "feed(32, -1)", "feed(32, MAX)",
                "feed(32, MIN)").due("count(8)", 0).due("feed(-1, 8)", 8).due("laws()", -1000100);
    }

    private static void room() {
        for (int left = 1; left <= 8; left++) {
            Run r = run("THE TAPE has at most 400 bytes .. FULL: none comes").text(" ".repeat(400 - left));
            for (int n = left + 1; n <= 8; n++) {
                r.due("feed(59, " + n + ")", FULL);
            }
            r.due("count(8)", 400 - left).due("feed(32, " + left + ")", 400);
            r.due("feed(32, 1)", FULL).due("feed(32, 9)", BAD).due("count(8)", 400);
            // Bytes 0 stand ahead of the blank that was fed.
            r.due("laws()", left == 1 ? 0 : -1000100 - (400 - left)).due("count(8)", 0);
            r.due("feed(32, 8)", 8);
        }
    }

    private static void emptied() {
        run("The tape, empty then, is read").text("from 1 wheel 2;").due("count(8)", 15).due("laws()", 1)
                .due("count(8)", 0).due("laws()", 1).due("feed(59, 1)", 1).due("laws()", -1000100).due("count(8)", 0)
                .due("laws()", 1).text("from 1 wheel 2;").due("count(8)", 15).due("laws()", 2);
        run("The tape, empty then, is read").laws("", 0).due("fault()", 0).laws("\n", 0).laws(" ".repeat(400), 0);
    }

    private static void names() {
        run("NAMES (letters a to z)").fault("`", 0, 1).fault("{", 0, 1).fault("From 1 wheel 1;", 0, 1)
                .fault("FROM 1 wheel 1;", 0, 1).fault("fro`m 1 wheel 1;", 0, 1).fault("from{ 1 wheel 1;", 4, 1)
                .fault("from` 1 wheel 1;", 4, 1).fault("fr om 1 wheel 1;", 0, 1).fault("fromm 1 wheel 1;", 0, 1)
                .fault("ffrom 1 wheel 1;", 0, 1).fault("fron 1 wheel 1;", 0, 1).fault("a", 0, 1).fault("z", 0, 1)
                .fault("from 1 wheels 1;", 7, 1).fault("from 1 whee 1;", 7, 1).fault("from 1 tol 1 1;", 7, 1)
                .fault("from 1 tolls 1 1;", 7, 1).fault("from 1 frees 1 1;", 7, 1).fault("from 1 goo 1;", 7, 1)
                .fault("from 1 goods 1;", 7, 1).fault("from 1 ba 1;", 7, 1).fault("from 1 bat 1;", 7, 1)
                .fault("from 1 bann 1;", 7, 1).fault("from 1 badd 1;", 7, 1).fault("from 1 lif 1;", 7, 1)
                .fault("from 1 lifts 1;", 7, 1).fault("from 1 Wheel 1;", 7, 1);
        run("NAMES (letters a to z)").fault("fromz 1 wheel 1;", 0, 1).fault("froma 1 wheel 1;", 0, 1)
                .fault("zfrom 1 wheel 1;", 0, 1).fault("afrom 1 wheel 1;", 0, 1).fault("from 1 wheelz 1;", 7, 1)
                .fault("from 1 banz 1;", 7, 1).fault("from 1z wheel 1;", 6, 1).fault("from 1a wheel 1;", 6, 1);
        run("NAMES (letters a to z), each of them").fault("prom 1 wheel 1;", 0, 1).fault("from 1 sheel 1;", 7, 1)
                .fault("from 1 roll 1 1;", 7, 1).fault("from 1 tree 1 1;", 7, 1).fault("from 1 food 1;", 7, 1)
                .fault("from 1 mad 1;", 7, 1).fault("from 1 can 1;", 7, 1).fault("from 1 gift 1;", 7, 1)
                .fault("from 1 wheet 1;", 7, 1).fault("from 1 told 1 1;", 7, 1).fault("from 1 fret 1 1;", 7, 1)
                .fault("from 1 goof 1;", 7, 1).fault("from 1 bar 1;", 7, 1).fault("from 1 life 1;", 7, 1)
                .fault("fool 1 wheel 1;", 0, 1).fault("from 1 lint 1;", 7, 1).due("count(1)", 0);
        run("NAMES (letters a to z)").fault("z".repeat(400), 0, 1).fault("from 1 " + "a".repeat(393), 7, 1);
    }

    private static void numbers() {
        run("NUMBERS (figures, 4 at most)").laws("from 0001 wheel 0007;", 1).due("holds(1, 0)", 7)
                .due("holds(0, 0)", 0).laws("from 0999 wheel 0999;", 2).due("holds(998, 0)", 7)
                .due("holds(999, 0)", 999).laws("from 0000 wheel 0000;", 3).due("holds(0, 0)", 0)
                .fault("from 00001 wheel 1;", 5, 1).fault("from 12345 wheel 1;", 5, 1).fault("from 9999 wheel 1;", 5, 2)
                .fault("from 1 wheel 00000;", 13, 1).fault("from 1 wheel 1000;", 13, 2)
                .fault("from 1 toll 00007 1;", 12, 1).fault("from 1 toll 7 00001;", 14, 1)
                .fault("from 1 ban 4294967296;", 11, 1).fault("from 1 ban 4294967297;", 11, 1)
                .fault("from -1 wheel 1;", 5, 1).fault("from +1 wheel 1;", 5, 1).fault("from 1.5 wheel 1;", 6, 1)
                .fault("from / wheel 1;", 5, 1).fault("from : wheel 1;", 5, 1).fault("from 1 wheel 1/;", 14, 1)
                .fault("from 1 wheel 1:", 14, 1);
        run("NUMBERS (figures, 4 at most)").fault("from " + "9".repeat(395), 5, 1).fault("9".repeat(400), 0, 1);
    }

    private static void signs() {
        run("SIGNS ;").fault("from 1 wheel 1:", 14, 1).fault("from 1 wheel 1<", 14, 1).fault("from 1 wheel 1,", 14, 1)
                .fault(";", 0, 1).fault("from 1 wheel 1;;", 15, 1).fault("from; 1 wheel 1;", 4, 1)
                .fault("from 1; wheel 1;", 6, 1).fault("from 1 wheel; 1;", 12, 1).fault("from 1 toll 1; 1;", 13, 1)
                .laws("from 1 wheel 1 ;", 1).laws("from 1 wheel 1\n;", 2).laws(" from 1 wheel 1; ", 3);
    }

    private static void between() {
        run("bytes 32 and 10 between").laws("\n \nfrom\n1\n \nwheel\n2\n;\n", 1).due("holds(1, 0)", 2)
                .laws("  from   1   toll   2   3  ;  ", 2).due("holds(1, 12)", 3);
        int[] others = {0, 1, 9, 11, 12, 13, 31, 33, 127, 128, 160, 223, 255};
        for (int b : others) {
            String sign = Character.toString((char) b);
            run("or is none").fault(sign, 0, 1).fault("from" + sign + "1 wheel 1;", 4, 1)
                    .fault("from 1" + sign + "wheel 1;", 6, 1).fault("from 1 wheel 1" + sign + ";", 14, 1)
                    .fault("from 1 wheel 1;" + sign, 15, 1).fault("fr" + sign + "om 1 wheel 1;", 0, 1);
        }
    }

    private static void grammar() {
        run("text: { 'from' NUMBER law { law } ';' }").laws("", 0).laws("from 1 wheel 1;", 1)
                .laws("from 1 wheel 1 wheel 2;", 3).laws("from 1 wheel 1; from 2 wheel 2;", 5)
                .laws("from 9 wheel 1; from 2 wheel 2 ban 1; from 5 good 1;", 9)
                .fault("from 1;", 6, 1).fault("from 1 ;", 7, 1).fault("from wheel 1;", 5, 1).fault("1 wheel 1;", 0, 1)
                .fault("wheel 1;", 0, 1).fault("from 1 2 wheel 1;", 7, 1).fault("from 1 from 2 wheel 1;", 7, 1)
                .fault("from from 1 wheel 1;", 5, 1).fault("from 1 wheel 1 from 2 wheel 1;", 15, 1)
                .fault("from 1 wheel 1; wheel 2;", 16, 1).fault("from 1 wheel 1; 2 wheel 2;", 16, 1)
                .fault("from 1 wheel 1; ;", 16, 1).fault("from 1 wheel 1 2;", 15, 1).due("count(1)", 9);
    }

    private static void laws() {
        String[] words = {"wheel", "good", "bad", "ban", "lift"};
        for (String word : words) {
            int at = 7 + word.length();
            String law = "from 1 " + word;
            run("law: '" + word + "' NUMBER").fault(law + ";", at, 1).fault(law + " x;", at + 1, 1)
                    .fault(law + " 1 1;", at + 3, 1).fault(law + " " + word + " 1;", at + 1, 1)
                    .fault(law, at, 1).fault(law + " 1", at + 2, 1).laws(law + " 1;", 1);
        }
        for (String word : new String[] {"toll", "free"}) {
            String law = "from 1 " + word;
            run("'" + word + "' NUMBER NUMBER").fault(law + ";", 11, 1).fault(law + " 1;", 13, 1)
                    .fault(law + " x 1;", 12, 1).fault(law + " 1 x;", 14, 1).fault(law + " 1 1 1;", 16, 1)
                    .fault(law, 11, 1).fault(law + " 1", 13, 1).fault(law + " 1 1", 15, 1).laws(law + " 1 1;", 1);
        }
    }

    private static void values() {
        String sentence = "2 a NUMBER that is not as told (a day; a WARE, TOWN, PERSON; all others 0 to 999)";
        run(sentence).laws("from 0 wheel 1;", 1).laws("from 999 wheel 1;", 2).fault("from 1000 wheel 1;", 5, 2)
                .fault("from 1001 wheel 1;", 5, 2).fault("from 9999 wheel 1;", 5, 2);
        run(sentence).laws("from 0 wheel 0;", 1).laws("from 0 wheel 999;", 2).fault("from 0 wheel 1000;", 13, 2);
        for (String word : new String[] {"toll", "free"}) {
            run(sentence).laws("from 0 " + word + " 0 0;", 1).laws("from 0 " + word + " 7 999;", 2)
                    .fault("from 0 " + word + " 8 0;", 12, 2).fault("from 0 " + word + " 9999 0;", 12, 2)
                    .fault("from 0 " + word + " 7 1000;", 14, 2).fault("from 0 " + word + " 8 1000;", 12, 2);
        }
        for (String word : new String[] {"good", "bad"}) {
            int at = 8 + word.length();
            run(sentence).laws("from 0 " + word + " 0;", 1).laws("from 0 " + word + " 7;", 2)
                    .fault("from 0 " + word + " 8;", at, 2).fault("from 0 " + word + " 9999;", at, 2);
        }
        for (String word : new String[] {"ban", "lift"}) {
            int at = 8 + word.length();
            run(sentence).laws("from 0 " + word + " 0;", 1).laws("from 0 " + word + " 11;", 2)
                    .fault("from 0 " + word + " 12;", at, 2).fault("from 0 " + word + " 999;", at, 2);
        }
    }

    private static void thirty() {
        String sentence = "They come behind those there are (30 together at most) .. 3 the 31st law (its word)";
        String ten = "from 0" + " ban 0".repeat(10) + ";";
        run(sentence).laws(ten + ten + ten, 30).fault("from 0 wheel 1;", 7, 3).due("count(1)", 30)
                .due("holds(0, 0)", 0).laws("", 30).laws(" \n", 30);
        run(sentence).laws(ten, 10).laws(ten, 20).fault(ten + "from 0 wheel 1;", ten.length() + 7, 3)
                .due("count(1)", 20).due("holds(0, 0)", 0).laws(ten, 30);
        run(sentence).laws(ten + ten, 20).laws("from 0" + " wheel 1".repeat(9) + ";", 29)
                .fault("from 0 wheel 2 wheel 3;", 15, 3).due("count(1)", 29).due("holds(0, 0)", 1)
                .laws("from 0 wheel 4;", 30).due("holds(0, 0)", 4).fault("from 0 wheel 5;", 7, 3)
                .due("holds(0, 0)", 4);
        String thirty = "from 0" + " ban 0".repeat(30);
        run(sentence).fault(thirty + " ban 0;", thirty.length() + 1, 3).due("count(1)", 0)
                .laws(thirty + ";", 30);
        // Of the 31st law nothing behind its word is looked at; all ahead of it is.
        run(sentence).laws(thirty + ";", 30).fault("from 0 ban 99;", 7, 3).fault("from 0 ban", 7, 3)
                .fault("from 0 toll x;", 7, 3).fault("from 1000 ban 0;", 5, 2).fault("from 0 bans 0;", 7, 1)
                .fault("from 0;", 6, 1).fault("from 0 ", 7, 1).fault("from 0 31;", 7, 1);
    }

    private static void topics() {
        String text = "from 10 wheel 100 toll 0 101 toll 7 102 free 0 103 free 7 104 bad 0 bad 7 ban 0 ban 11;";
        Run r = run("of wheels; of each WARE its toll, and what goes free; of each TOWN ..; of each PERSON a ban");
        r.laws(text, 9);
        for (int what : TOPICS) {
            int at = switch (what) {
                case 0 -> 100;
                case 10 -> 101;
                case 17 -> 102;
                case 20 -> 103;
                case 27 -> 104;
                case 30, 37 -> 0;
                case 40, 51 -> 1;
                default -> what >= 30 && what <= 37 ? 1 : 0;
            };
            r.due("holds(9, " + what + ")", what >= 30 && what <= 37 ? 1 : 0);
            r.due("holds(10, " + what + ")", at).due("holds(999, " + what + ")", at);
        }
        r.laws("from 11 good 7 lift 11;", 11).due("holds(10, 37)", 0).due("holds(11, 37)", 1).due("holds(10, 51)", 1)
                .due("holds(11, 51)", 0).due("holds(11, 30)", 0).due("holds(11, 40)", 1);
    }

    private static void latestDay() {
        run("the law of the latest day no later than it").laws("from 20 wheel 2; from 10 wheel 1; from 30 wheel 3;", 3)
                .due("holds(9, 0)", 0).due("holds(10, 0)", 1).due("holds(19, 0)", 1).due("holds(20, 0)", 2)
                .due("holds(29, 0)", 2).due("holds(30, 0)", 3).due("holds(999, 0)", 3)
                .laws("from 0 wheel 9; from 999 wheel 8;", 5).due("holds(0, 0)", 9).due("holds(9, 0)", 9)
                .due("holds(10, 0)", 1).due("holds(998, 0)", 3).due("holds(999, 0)", 8);
    }

    private static void toldLast() {
        run("of one day the one told last").laws("from 5 wheel 1 wheel 2 wheel 3;", 3).due("holds(5, 0)", 3)
                .laws("from 5 wheel 4; from 6 wheel 5; from 5 wheel 6;", 6).due("holds(5, 0)", 6).due("holds(6, 0)", 5)
                .laws("from 5 wheel 0;", 7).due("holds(5, 0)", 0)
                .laws("from 5 ban 1 lift 1 ban 2 lift 2 ban 2 bad 3 good 3 good 4 bad 4;", 16)
                .due("holds(5, 41)", 0).due("holds(5, 42)", 1).due("holds(5, 33)", 1).due("holds(5, 34)", 0);
    }

    private static void without() {
        Run r = run("Without: 0; 0; good; none");
        for (int what : TOPICS) {
            int due = what >= 30 && what <= 37 ? 1 : 0;
            r.due("holds(0, " + what + ")", due).due("holds(999, " + what + ")", due);
        }
    }

    private static void firstToken() {
        run("FAULTS, the first TOKEN that has one (its first byte)").fault("from 1000 x", 5, 2)
                .fault("from 1 wheel 1000 # 5", 13, 2).fault("from 1 # wheel 1000;", 7, 1)
                .fault("from 1 wheel 1000; from 1000 wheel 1;", 13, 2)
                .fault("from 1 wheel 1; from 1000 wheel 1000;", 21, 2)
                .fault("   whom 1000", 3, 1).fault("from 1 toll 8 1000;", 12, 2).fault("from 1000 wheel 12345;", 5, 2)
                .fault("from 12345 wheel 1000;", 5, 1);
    }

    private static void leastFault() {
        String thirty = "from 0" + " ban 0".repeat(30) + ";";
        run("of one TOKEN the least").fault("1000", 0, 1).fault("from 1 1000;", 7, 1)
                .fault("from 1 wheel 1 1000;", 15, 1)
                .fault("from 99999 wheel 1;", 5, 1).fault("from 1 toll 99999 1;", 12, 1).laws(thirty, 30)
                .fault("from 0 from 1;", 7, 1).fault("from 0 whee 1;", 7, 1).fault("from 0 ;", 7, 1)
                .fault("from 0 ban 1;", 7, 3);
    }

    private static void theEnd() {
        run("1 it cannot stand there, or is none (the end: how many bytes there are)").fault("from", 4, 1)
                .fault("from ", 5, 1).fault("from 1", 6, 1).fault("from 1 \n", 8, 1).fault("from 1 wheel", 12, 1)
                .fault("from 1 wheel  ", 14, 1).fault("from 1 wheel 1", 14, 1).fault("from 1 toll 1", 13, 1)
                .fault("from 1 toll 1 ", 14, 1).fault("from 1 toll 1 1", 15, 1).fault("from 1 wheel 1 \n ", 17, 1)
                .fault("from 1 wheel 1; from", 20, 1);
        run("the end: how many bytes there are").text("from 1 wheel 1" + " ".repeat(386)).due("count(8)", 400)
                .due("laws()", -1000500).due("fault()", 1).text(" ".repeat(399) + ";").due("laws()", -1000499);
    }

    private static void latestFault() {
        run("The number of the latest FAULT; 0 before one").due("fault()", 0).laws("from 1 wheel 1;", 1)
                .due("fault()", 0).fault("x", 0, 1).fault("from 1000", 5, 2).due("fault()", 2)
                .laws("from 1 wheel 1;", 2).due("fault()", 2).due("laws()", 2).due("fault()", 2).fault(";", 0, 1)
                .dueAll(BAD, "feed(0, 9)", "holds(0, 1)").due("fault()", 1);
        run("-1000100 less the place of a FAULT: none comes").laws("from 5 wheel 1;", 1)
                .fault("from 5 wheel 2; from 5 wheel 3 wheel x;", 37, 1).due("count(1)", 1).due("holds(5, 0)", 1)
                .fault("from 5 wheel 2 ban 1 bad 1 toll 1 1 free 1 1", 44, 1).due("count(1)", 1)
                .due("holds(5, 0)", 1).due("holds(5, 41)", 0).due("holds(5, 31)", 1).due("holds(5, 11)", 0)
                .due("holds(5, 21)", 0).laws("from 6 wheel 4;", 2).due("holds(5, 0)", 1).due("holds(6, 0)", 4)
                .due("holds(999, 41)", 0).due("holds(999, 31)", 1);
    }

    private static void whats() {
        run("0 what a wheel owes; 10 to 17 ..; 20 to 27 ..; 30 to 37 ..; 40 to 51 .. BAD")
                .dueAll(BAD, "holds(0, -1)", "holds(0, 1)", "holds(0, 9)", "holds(0, 18)", "holds(0, 19)",
                "holds(0, 28)",
                        "holds(0, 29)", "holds(0, 38)", "holds(0, 39)", "holds(0, 52)", "holds(0, MAX)",
                        "holds(0, MIN)",
                        "holds(-1, 0)", "holds(1000, 0)", "holds(1000, 1)")
                .dueAll(0, "holds(0, 0)", "holds(0, 10)", "holds(0, 17)", "holds(0, 20)", "holds(0, 27)",
                "holds(0, 40)",
                        "holds(0, 51)").dueAll(1, "holds(0, 30)", "holds(0, 37)");
    }
}
