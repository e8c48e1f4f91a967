/** The tape, the LAW and its FAULTS: promises 8 to 11. */
public final class LawTest {
    private static final Check CHECK = new Check();

    private LawTest() {
    }

    public static void main(String[] args) {
        tape();
        lawTakesBytes();
        rightTexts();
        faults();
        faultsOfRules();
        opens();
        rules();
        lastOneHolds();
        weights();
        CHECK.end("LawTest");
    }

    private static void tape() {
        LuckLinks x = new LuckLinks();
        for (int i = 1; i <= 35; i++) {
            CHECK.due(8, "feed", x.feed(-1, 0, 0, 0, 0), 20 * i);
        }
        CHECK.due(8, "feed beyond 700", x.feed(0, 0, 0, 0, 0), -1);
        CHECK.due(8, "count(3)", x.count(3), 700);
        for (int what = 5; what <= 7; what++) {
            CHECK.due(8, "not refused", x.count(what), 0);
        }
        CHECK.due(9, "law(701)", x.law(701), -2);
        CHECK.due(9, "law(-1)", x.law(-1), -2);
        CHECK.due(9, "count(3): the tape stays", x.count(3), 700);
        CHECK.due(9, "count(5)", x.count(5), 2);
        CHECK.due(10, "fault(): none yet", x.fault(), -1);
        CHECK.due(9, "law(700)", x.law(700), -1);
        CHECK.due(10, "fault(): byte 255 begins no token", x.fault(), 0);
        CHECK.due(9, "count(3): empty with a fault, too", x.count(3), 0);
        CHECK.due(9, "count(7)", x.count(7), 1);
        CHECK.due(8, "feed", x.feed(0, 0, 0, 0, 0), 20);
    }

    private static void lawTakesBytes() {
        LuckLinks x = new LuckLinks();
        CHECK.due(9, "law(1) of none", x.law(1), -2);
        CHECK.due(9, "law(0) of none", x.law(0), 0);
        Check.feed(x, "luck tee 3;luck long 4;luck !");
        CHECK.due(9, "law of the first bytes alone", x.law(23), 2);
        CHECK.due(9, "count(3): the rest is gone, too", x.count(3), 0);
        CHECK.due(11, "rule(10)", x.rule(10), 3);
        CHECK.due(11, "rule(11)", x.rule(11), 4);
        Check.feed(x, "luck tee 5;luck");
        CHECK.due(9, "law with a fault", x.law(15), -1);
        CHECK.due(10, "fault()", x.fault(), 15);
        CHECK.due(9, "the law there was stays", x.rule(10), 3);
        CHECK.due(9, "the law there was stays", x.rule(200), 2);
        CHECK.due(9, "law(-5)", x.law(-5), -2);
        CHECK.due(10, "fault() stays with -2", x.fault(), 15);
        CHECK.due(9, "law(0): one without rules", x.law(0), 0);
        CHECK.due(10, "fault()", x.fault(), -1);
        CHECK.due(11, "rule(10)", x.rule(10), 0);
        CHECK.due(9, "count(5)", x.count(5), 2);
        CHECK.due(9, "count(7)", x.count(7), 1);
        // 'l','u','c','k' the highest first, then " tee", " 7;"
        x.feed(0x6c75636b, 0x20746565, 0x20373b20, 0, 0);
        CHECK.due(8, "bytes, the highest first", x.law(11), 1);
        CHECK.due(11, "rule(10)", x.rule(10), 7);
    }

    private static void right(String text, int rules) {
        LuckLinks x = new LuckLinks();
        CHECK.due(9, "law of " + text, Check.law(x, text), rules);
        CHECK.due(10, "fault of " + text, x.fault(), -1);
        CHECK.due(9, "count(7)", x.count(7), 0);
    }

    private static void rightTexts() {
        right("", 0);
        right("  \n ", 0);
        right("luck tee 9;", 1);
        right("luck tee9;luck long0;\nluck\nshort\n0009 ;drift last 9;", 4);
        right("hour long 20 from 11;hour long20from0;", 2);
        right("press short more 20;press last less 0;", 2);
        right("press tee more 1 if day<3 and hour>11 or week=39 and course=0;", 1);
        right("press tee more 1if behind=9999 or(order<0);", 1);
        right("press tee more 1 if not(not day=1)and((hour=2));", 1);
        right("cut 0 1;cut 1 20;cut 2 7;", 3);
        right("prize 1 0;prize 20 9999;points 1 0;points 20 999;", 4);
        right("weigh 0 0;weigh 39 20;weigh 0039 0020;", 3);
        right("press tee more 1 if not not not(not(not(not day=1)));", 1);
    }

    private static void answers(String text, int rules, int fault) {
        LuckLinks x = new LuckLinks();
        CHECK.due(9, "law of " + text, Check.law(x, text), rules);
        CHECK.due(10, "fault of " + text, x.fault(), fault);
    }

    private static void fault(String ahead, String rest) {
        answers(ahead + rest, -1, ahead.length());
    }

    private static void faults() {
        fault("", "A");
        fault(" ", "lucky tee 1;");
        fault("", "9;");
        fault("", ";");
        fault("luck ", "te 1;");
        fault("luck ", "teee 1;");
        fault("luck ", "te");
        fault("luck tee ", "10;");
        fault("luck tee ", "00001;");
        fault("luck tee ", "99999999999999999999;");
        fault("luck tee ", "-1;");
        fault("luck tee ", ";");
        fault("luck", ";");
        fault("", "duck tee 1;");
        fault("", "lick tee 1;");
        fault("luck ", "nee 1;");
        fault("luck ", "toe 1;");
        fault("luck tee 1", "x;");
        fault("luck tee 1", ",");
        fault("luck tee 1\n\n", "\t;");
        fault("luck tee 1;", "\u00ff");
        fault("luck tee 1", "");
        fault("luck tee 1  ", "");
        fault("luck tee ", "");
        fault("luck", "");
        fault("luck tee 1;", ";");
        fault("luck tee 1 ", "luck tee 1;");
        fault("luck tee 1 ", "1;");
        fault("", "LUCK tee 1;");
        fault("", "lucktee 1;");
    }

    private static void faultsOfRules() {
        fault("drift tee ", "10;");
        fault("drift ", "1;");
        fault("drift tee", ";");
        fault("hour", ";");
        fault("hour tee", ";");
        fault("hour tee 1 from", ";");
        fault("press", ";");
        fault("press tee", ";");
        fault("press tee less", ";");
        fault("press tee less 1 if day", ";");
        fault("press tee less 1 if day<", ";");
        fault("press tee less 1 if not", ";");
        fault("press tee less 1 if day<1 and", ";");
        fault("cut", ";");
        fault("cut 1", ";");
        fault("prize", ";");
        fault("prize 1", ";");
        fault("points", ";");
        fault("points 1", ";");
        fault("weigh", ";");
        fault("weigh 1", ";");
        fault("hour tee ", "21 from 1;");
        fault("hour tee 20 ", ";");
        fault("hour tee 20 ", "to 3;");
        fault("hour tee 20 from ", "12;");
        fault("press tee ", "1;");
        fault("press tee more ", "21;");
        fault("press tee more 1 ", "when day=1;");
        fault("press tee more 1 if ", ";");
        fault("press tee more 1 if", "");
        fault("press tee more 1 if ", "tee=1;");
        fault("press tee more 1 if day ", "1;");
        fault("press tee more 1 if day=", "=1;");
        fault("press tee more 1 if day=", "hour;");
        fault("press tee more 1 if day=", "10000;");
        fault("press tee more 1 if day=1 ", ");");
        fault("press tee more 1 if (day=1", ";");
        fault("press tee more 1 if (day=1", "");
        fault("press tee more 1 if (", ");");
        fault("press tee more 1 if day=1 and ", "or day=2;");
        fault("press tee more 1 if day=1 or ", ";");
        fault("press tee more 1 if not ", "and day=1;");
        fault("press tee more 1 if day=1 ", "not day=2;");
        fault("cut ", "3 1;");
        fault("cut 0 ", "0;");
        fault("cut 0 ", "21;");
        fault("prize ", "0 1;");
        fault("prize ", "21 1;");
        fault("prize 1 ", "10000;");
        fault("points ", "0 1;");
        fault("points ", "21 1;");
        fault("points 1 ", "1000;");
        fault("weigh ", "40 1;");
        fault("weigh 1 ", "21;");
        StringBuilder forty = new StringBuilder();
        for (int i = 0; i < 40; i++) {
            forty.append("cut 1 2;");
        }
        answers(forty + "  \n", 40, -1);
        fault(forty + "  ", "cut 1 2;");
        fault(forty + " ", "x");
    }

    private static void opens() {
        String nine = "press tee more 1 if " + "not (".repeat(4) + "not ";
        answers(nine + "day=1" + ")".repeat(4) + ";", 1, -1);
        fault(nine, "(day=1" + ")".repeat(5) + ";");
        fault(nine, "not day=1" + ")".repeat(4) + ";");
        String brackets = "press tee more 1 if " + "(".repeat(9);
        answers(brackets + "day=1" + ")".repeat(9) + ";", 1, -1);
        fault(brackets, "(day=1" + ")".repeat(10) + ";");
        // What has ended isn't open: nine again behind it.
        String ended = "press tee more 1 if not day=1 and (day=1) or " + "not ".repeat(9);
        answers(ended + "day=2;", 1, -1);
        fault(ended, "not day=2;");
        answers("press tee more 1 if " + "(".repeat(8) + "not day=1 and not day=2" + ")".repeat(8) + ";", 1, -1);
    }

    private static void rules() {
        LuckLinks x = new LuckLinks();
        CHECK.due(9, "law", Check.law(x, "drift tee 1;drift long 2;drift short 3;drift last 4;luck tee 5;luck long 6;"
                + "luck short 7;luck last 8;cut 0 9;cut 1 10;cut 2 11;prize 1 12;prize 20 13;points 1 14;points 20 15;"
                + "weigh 0 16;weigh 39 17;hour tee 1 from 1;press tee more 1;"), 19);
        int[][] want = {{0, 1}, {1, 2}, {2, 3}, {3, 4}, {10, 5}, {11, 6}, {12, 7}, {13, 8}, {20, 9}, {21, 10}, {22, 11},
            {31, 12}, {50, 13}, {61, 14}, {80, 15}, {100, 16}, {138, 16}, {139, 17}, {200, 19}, {32, 0}, {49, 0}, {62, 0}};
        for (int[] one : want) {
            CHECK.due(11, "rule(" + one[0] + ")", x.rule(one[0]), one[1]);
        }
        int[] none = {-1, 4, 9, 14, 19, 23, 29, 30, 51, 60, 81, 99, 140, 199, 201, Integer.MIN_VALUE, Integer.MAX_VALUE};
        for (int what : none) {
            CHECK.due(11, "rule(" + what + ")", x.rule(what), -1);
        }
        CHECK.due(9, "law", Check.law(x, "prize 2 1;"), 1);
        for (int[] one : want) {
            int due = one[0] == 200 || one[0] == 32 ? 1 : one[0] >= 100 ? 1 : 0;
            CHECK.due(11, "rule(" + one[0] + ") by the new law", x.rule(one[0]), due);
        }
    }

    private static void lastOneHolds() {
        LuckLinks x = new LuckLinks();
        CHECK.due(9, "law", Check.law(x, "drift tee 1;drift tee 2;luck long 3;luck long 0;cut 1 4;cut 1 5;prize 3 9;"
                + "prize 3 8;points 4 7;points 4 6;weigh 5 4;weigh 5 3;"), 12);
        int[][] want = {{0, 2}, {11, 0}, {21, 5}, {33, 8}, {64, 6}, {105, 3}, {104, 1}, {200, 12}};
        for (int[] one : want) {
            CHECK.due(11, "rule(" + one[0] + ")", x.rule(one[0]), one[1]);
        }
    }

    private static void weights() {
        LuckLinks x = new LuckLinks();
        CHECK.due(11, "rule(100) without", x.rule(100), 1);
        Check.law(x, "weigh 9 0;weigh 3 7;weigh 20 2;");
        int[][] want = {{100, 1}, {102, 1}, {103, 7}, {108, 7}, {109, 0}, {119, 0}, {120, 2}, {139, 2}};
        for (int[] one : want) {
            CHECK.due(11, "rule(" + one[0] + ")", x.rule(one[0]), one[1]);
        }
    }
}
