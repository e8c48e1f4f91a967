/** Each sentence on an edge of promises 8 to 11 and of the LAW's text; the words in quotes are the document's. */
public final class EdgesOfLawTest {
    private static final Check CHECK = new Check();

    private EdgesOfLawTest() {
    }

    public static void main(String[] args) {
        highestByteFirst();
        tapeUpToSevenHundred();
        tapeIsFreeAgain();
        lawOfTooManyBytes();
        lawOfNoBytes();
        lawOfTheFirstBytes();
        lawWithFault();
        faultOfTheLatestLaw();
        rulesAsked();
        numbersOfRules();
        numbersOfComparisons();
        digitsOneToFour();
        rulesUpToForty();
        opensUpToNine();
        openInOneAnotherOnly();
        emptyTexts();
        moreMustCome();
        tokensAsLongAsTheyGo();
        blanks();
        bytesThatBeginNoToken();
        namesOfAllKinds();
        theLongestLaw();
        lastOneHolds();
        allHoursAndPressesDo();
        withoutRules();
        nothingLeftOfOtherLaws();
        nothingLeftOfAFault();
        pressesBesideOthers();
        CHECK.end("EdgesOfLawTest");
    }

    /** A text without a fault, of so many rules. */
    private static LuckLinks right(String text, int rules) {
        LuckLinks x = new LuckLinks();
        CHECK.due(9, "law of " + text, Check.law(x, text), rules);
        CHECK.due(10, "fault of " + text, x.fault(), -1);
        return x;
    }

    /** The fault is where the rest begins. */
    private static void fault(String ahead, String rest) {
        LuckLinks x = new LuckLinks();
        CHECK.due(9, "law of " + ahead + rest, Check.law(x, ahead + rest), -1);
        CHECK.due(10, "fault of " + ahead + rest, x.fault(), ahead.length());
        CHECK.due(9, "reason 2", x.count(7), 1);
    }

    /** "Twenty bytes come behind those on the tape, of each number the highest first". */
    private static void highestByteFirst() {
        LuckLinks x = new LuckLinks();
        CHECK.due(8, "feed", x.feed(0x6c75636b, 0x20746565, 0x20393b6c, 0x75636b20, 0x6c6f6e67), 20);
        CHECK.due(8, "feed behind it", x.feed(0x20383b63, 0x75742031, 0x2037373b, 0x20202020, 0x0a0a0a0a), 40);
        CHECK.due(8, "luck tee 9;luck long 8;cut 1 77;: 77 is too much", x.law(40), -1);
        CHECK.due(8, "its place", x.fault(), 29);
        CHECK.due(8, "feed a number below 0", x.feed(0x80000000, -1, 0x7fffffff, 0, 1), 20);
        CHECK.due(8, "byte 128 begins no token", x.law(1), -1);
        CHECK.due(8, "its place", x.fault(), 0);
    }

    /** "how many there are. NONE, doing nothing (not REFUSED): there would be more than 700." */
    private static void tapeUpToSevenHundred() {
        LuckLinks x = new LuckLinks();
        for (int i = 1; i <= 35; i++) {
            CHECK.due(8, "feed " + i, x.feed(0x20202020, 0x20202020, 0x20202020, 0x20202020, 0x20202020), 20 * i);
        }
        CHECK.due(8, "the 36th", x.feed(0x41414141, 0x41414141, 0x41414141, 0x41414141, 0x41414141), -1);
        CHECK.due(8, "once more", x.feed(0, 0, 0, 0, 0), -1);
        CHECK.due(8, "700 are there", x.count(3), 700);
        for (int reason = 5; reason <= 7; reason++) {
            CHECK.due(8, "not refused", x.count(reason), 0);
        }
        CHECK.due(8, "nothing but blanks is there", x.law(700), 0);
    }

    /** "(which is empty then, with a FAULT, too)". */
    private static void tapeIsFreeAgain() {
        LuckLinks x = new LuckLinks();
        for (int i = 0; i < 35; i++) {
            x.feed(0, 0, 0, 0, 0);
        }
        CHECK.due(9, "a fault", x.law(700), -1);
        CHECK.due(9, "the tape is empty", x.count(3), 0);
        CHECK.due(8, "feed", x.feed(0x20202020, 0x20202020, 0x20202020, 0x20202020, 0x20202020), 20);
        CHECK.due(9, "no fault", x.law(20), 0);
        CHECK.due(9, "the tape is empty", x.count(3), 0);
        CHECK.due(9, "nothing is left on it", x.law(1), -2);
    }

    /** "-2, doing nothing but REFUSED: n is below 0 or more than there are." */
    private static void lawOfTooManyBytes() {
        LuckLinks x = new LuckLinks();
        Check.law(x, "luck tee 7;");
        Check.law(x, "luck tee 7");
        Check.feed(x, "luck tee 8;");
        int[] wrong = {-1, 21, 700, 701, Integer.MIN_VALUE, Integer.MAX_VALUE};
        for (int n : wrong) {
            CHECK.due(9, "law(" + n + ")", x.law(n), -2);
            CHECK.due(9, "the tape stays", x.count(3), 20);
            CHECK.due(9, "the law stays", x.rule(10), 7);
            CHECK.due(9, "the fault stays", x.fault(), 10);
        }
        CHECK.due(9, "reason 0", x.count(5), 6);
        CHECK.due(9, "not reason 1", x.count(6), 0);
        CHECK.due(9, "reason 2 is of the fault ahead", x.count(7), 1);
        CHECK.due(9, "as many as there are", x.law(20), 1);
        CHECK.due(9, "the new law", x.rule(10), 8);
        CHECK.due(9, "none on the tape", x.law(1), -2);
        CHECK.due(9, "reason 0", x.count(5), 7);
    }

    private static void lawOfNoBytes() {
        LuckLinks x = new LuckLinks();
        CHECK.due(9, "law(0) of an empty tape", x.law(0), 0);
        Check.law(x, "luck tee 7;");
        Check.feed(x, "luck tee 8;");
        CHECK.due(9, "law(0)", x.law(0), 0);
        CHECK.due(9, "the tape is empty", x.count(3), 0);
        CHECK.due(9, "no rules", x.rule(200), 0);
        CHECK.due(9, "no luck", x.rule(10), 0);
        CHECK.due(10, "no fault", x.fault(), -1);
        CHECK.due(9, "nothing was refused", x.count(5) + x.count(6) + x.count(7), 0);
    }

    private static void lawOfTheFirstBytes() {
        LuckLinks x = new LuckLinks();
        Check.feed(x, "luck tee 8;luck tee 9;");
        CHECK.due(9, "the first 11", x.law(11), 1);
        CHECK.due(9, "the law", x.rule(10), 8);
        CHECK.due(9, "the rest is gone", x.count(3), 0);
        Check.feed(x, "luck tee 8;luck tee 9;");
        CHECK.due(9, "the first 12", x.law(12), -1);
        CHECK.due(10, "a rule is begun: \"l\" is none", x.fault(), 11);
        Check.feed(x, "luck tee 12;");
        CHECK.due(9, "a number of which n leaves the first digit: more must come", x.law(10), -1);
        CHECK.due(10, "the text's length", x.fault(), 10);
        CHECK.due(9, "the rest is gone with a fault, too", x.count(3), 0);
    }

    /** "NONE: a FAULT (the one there was stays)". */
    private static void lawWithFault() {
        LuckLinks x = new LuckLinks();
        Check.law(x, "drift tee 1;luck tee 2;cut 0 3;prize 1 4;points 1 5;weigh 0 6;");
        CHECK.due(9, "a fault at the end", Check.law(x, "drift tee 9;luck tee 9;cut 0 9;prize 1 9;points 1 9;weigh 0 9"), -1);
        CHECK.due(9, "drift", x.rule(0), 1);
        CHECK.due(9, "luck", x.rule(10), 2);
        CHECK.due(9, "cut", x.rule(20), 3);
        CHECK.due(9, "prize", x.rule(31), 4);
        CHECK.due(9, "points", x.rule(61), 5);
        CHECK.due(9, "weigh", x.rule(100), 6);
        CHECK.due(9, "weigh of a greater age", x.rule(139), 6);
        CHECK.due(9, "rules", x.rule(200), 6);
        CHECK.due(9, "two more faults", Check.law(x, "x") + Check.law(x, "luck"), -2);
        CHECK.due(9, "rules", x.rule(200), 6);
        CHECK.due(9, "reason 2", x.count(7), 3);
        CHECK.due(9, "no other reason", x.count(5) + x.count(6), 0);
    }

    /** "The FAULT's place of the latest law() that was a number or NONE; NONE: it had none." */
    private static void faultOfTheLatestLaw() {
        LuckLinks x = new LuckLinks();
        CHECK.due(10, "no law() yet", x.fault(), -1);
        x.law(1);
        CHECK.due(10, "law() was -2", x.fault(), -1);
        Check.law(x, "luck tee");
        CHECK.due(10, "law() was NONE", x.fault(), 8);
        x.law(-1);
        CHECK.due(10, "law() was -2", x.fault(), 8);
        Check.law(x, " x");
        CHECK.due(10, "law() was NONE", x.fault(), 1);
        Check.law(x, "luck tee 1;");
        CHECK.due(10, "law() was a number", x.fault(), -1);
        x.law(1);
        CHECK.due(10, "law() was -2", x.fault(), -1);
        Check.law(x, "x");
        CHECK.due(10, "a fault at 0", x.fault(), 0);
        x.law(0);
        CHECK.due(10, "law() was 0", x.fault(), -1);
    }

    /** "NONE for others." */
    private static void rulesAsked() {
        LuckLinks x = new LuckLinks();
        CHECK.range(11, "drift", what -> x.rule(what), 0, 3, -1);
        CHECK.range(11, "luck", what -> x.rule(what), 10, 13, -1);
        CHECK.range(11, "cut", what -> x.rule(what), 20, 22, -1);
        CHECK.range(11, "prize", what -> x.rule(what), 31, 50, -1);
        CHECK.range(11, "points", what -> x.rule(what), 61, 80, -1);
        CHECK.range(11, "weigh", what -> x.rule(what), 100, 139, -1);
        CHECK.range(11, "rules", what -> x.rule(what), 200, 200, -1);
        for (int what = -20; what < 220; what++) {
            boolean isNone = what < 0 || what > 3 && what < 10 || what > 13 && what < 20 || what > 22 && what < 31
                    || what > 50 && what < 61 || what > 80 && what < 100 || what > 139 && what != 200;
            CHECK.due(11, "rule(" + what + ") is NONE", x.rule(what) == -1, isNone);
        }
    }

    /** A number between two texts: only from least to most it isn't the fault. */
    private static void numbers(String ahead, int least, int most, String behind) {
        right(ahead + least + behind, 1);
        right(ahead + most + behind, 1);
        fault(ahead, most + 1 + behind);
        fault(ahead, "9999" + (most < 9999 ? "" : "9") + behind);
        if (least > 0) {
            fault(ahead, least - 1 + behind);
        }
        fault(ahead, "-" + most + behind);
    }

    /** "N: of drift, luck 0 to 9, of hour, press 0 to 20; HOUR: 0 to 11; DAY: 0 to 2; KEEP, PLACE: 1 to 20; .." */
    private static void numbersOfRules() {
        for (String part : ModelLaw.PARTS) {
            numbers("drift " + part + " ", 0, 9, ";");
            numbers("luck " + part + " ", 0, 9, ";");
            numbers("hour " + part + " ", 0, 20, " from 3;");
            numbers("hour " + part + " 1 from ", 0, 11, ";");
            numbers("press " + part + " more ", 0, 20, ";");
            numbers("press " + part + " less ", 0, 20, " if day=1;");
        }
        numbers("cut ", 0, 2, " 1;");
        numbers("prize ", 1, 20, " 1;");
        numbers("points ", 1, 20, " 1;");
        numbers("weigh ", 0, 39, " 1;");
        numbers("cut 0 ", 1, 20, ";");
        numbers("cut 2 ", 1, 20, ";");
        numbers("prize 1 ", 0, 9999, ";");
        numbers("prize 20 ", 0, 9999, ";");
        numbers("points 1 ", 0, 999, ";");
        numbers("points 20 ", 0, 999, ";");
        numbers("weigh 0 ", 0, 20, ";");
        numbers("weigh 39 ", 0, 20, ";");
    }

    /** "WORD: day, hour, week, course, behind, order. NUMBER: 0 to 9,999." Whatever the word can be. */
    private static void numbersOfComparisons() {
        for (String word : ModelLaw.WORDS) {
            numbers("press tee more 1 if " + word + "<", 0, 9999, ";");
            numbers("press tee more 1 if " + word + ">", 0, 9999, ";");
            numbers("press tee more 1 if not (" + word + " = ", 0, 9999, ");");
        }
    }

    /** "Each number of one to four digits." */
    private static void digitsOneToFour() {
        CHECK.due(9, "one", right("luck tee 7;", 1).rule(10), 7);
        CHECK.due(9, "two", right("luck tee 07;", 1).rule(10), 7);
        CHECK.due(9, "three", right("luck tee 007;", 1).rule(10), 7);
        CHECK.due(9, "four", right("luck tee 0007;", 1).rule(10), 7);
        fault("luck tee ", "00007;");
        fault("luck tee ", "000000000000000000000000000007;");
        CHECK.due(9, "0000", right("cut 0000 0020;", 1).rule(20), 20);
        fault("cut ", "00000 20;");
        fault("cut 0 ", "00020;");
        fault("prize 1 ", "09999;");
        fault("prize 1 ", "4294967296;");
        fault("prize 1 ", "18446744073709551617;");
        fault("press tee more 1 if day<", "00001;");
        fault("luck tee ", ";");
    }

    private static String cuts(int many) {
        return "cut 1 2;".repeat(many);
    }

    /** "{RULE ";"}, at most 40"; "the 41st RULE: where it begins." */
    private static void rulesUpToForty() {
        right(cuts(39), 39);
        right(cuts(40), 40);
        right(cuts(40) + " \n ", 40);
        fault(cuts(40), "cut 1 2;");
        fault(cuts(40) + " \n ", "cut 1 2;");
        fault(cuts(40), "cut 1");
        fault(cuts(40), "cut 1 99;");
        fault(cuts(40), "c");
        fault(cuts(40), ";");
        fault(cuts(40), "!");
        fault(cuts(39) + "cut 1 ", "0;cut 1 2;");
        fault(cuts(39) + "cut 1 2", "");
    }

    /** "\"not\" and \"(\": at most 9 open in one another"; "the tenth open, too". */
    private static void opensUpToNine() {
        String press = "press tee more 1 if ";
        for (int nots = 0; nots <= 9; nots++) {
            int brackets = 9 - nots;
            String nine = press + "not ".repeat(nots) + "(".repeat(brackets);
            right(nine + "day=1" + ")".repeat(brackets) + ";", 1);
            fault(nine, "(day=1" + ")".repeat(brackets + 1) + ";");
            fault(nine, "not day=1" + ")".repeat(brackets) + ";");
        }
        String mixed = press + "(not ".repeat(4) + "(";
        right(mixed + "day=1" + ")".repeat(5) + ";", 1);
        fault(mixed, "not day=1" + ")".repeat(5) + ";");
        fault(mixed, "(day=1" + ")".repeat(6) + ";");
        fault(press + "(".repeat(9) + "day=1 and ", "(day=1" + ")".repeat(10) + ";");
        fault(press + "(".repeat(9) + "day=1 or ", "not day=1" + ")".repeat(9) + ";");
    }

    /** What has ended isn't open any more. */
    private static void openInOneAnotherOnly() {
        String press = "press tee more 1 if ";
        String nine = "(".repeat(9) + "day=1" + ")".repeat(9);
        right(press + nine + " and " + nine + " or " + nine + ";", 1);
        right(press + "not ".repeat(9) + "day=1 and " + "not ".repeat(9) + "day=2;", 1);
        right(press + "not (not (day=1)) and " + nine + ";", 1);
        right(press + nine + ";" + press + nine + ";", 2);
        right(press + "(".repeat(8) + "not day=1 and not day=2 or (day=3)" + ")".repeat(8) + ";", 1);
        right(press + "(" + "(".repeat(8) + "day=1" + ")".repeat(8) + " or " + "not ".repeat(8) + "day=2);", 1);
        fault(press + "(" + "(".repeat(8) + "day=1" + ")".repeat(8) + " or " + "not ".repeat(8), "not day=2);");
        // A "not" ends with its ONE, a bracket behind it with its own end.
        right(press + "not (day=1 and " + "not ".repeat(7) + "day=2) or " + "not ".repeat(9) + "day=3;", 1);
        fault(press + "not (day=1 and " + "not ".repeat(7), "not day=2);");
    }

    private static void emptyTexts() {
        right("", 0);
        right(" ", 0);
        right("\n", 0);
        right(" ".repeat(700), 0);
        fault("", ";");
        fault(" ", ";");
        fault("luck tee 1;", ";");
        fault("press tee more 1 if ", ";");
        fault("press tee more 1 if (", ");");
    }

    /** "the text's length, if more must come": behind each token of each kind of rule, blanks or none behind it. */
    private static void moreMustCome() {
        String[] rules = {"drift tee 1", "luck long 2", "hour short 3 from 4", "press last more 5", "press tee less 6 if day<1",
            "press tee less 6 if not ( hour > 2 or week = 3 ) and course = 4", "cut 1 7", "prize 2 8", "points 3 9", "weigh 4 10"};
        for (String rule : rules) {
            String[] tokens = rule.split(" ");
            StringBuilder text = new StringBuilder("luck tee 1;");
            for (String token : tokens) {
                text.append(token);
                fault(text.toString(), "");
                text.append(' ');
                fault(text.toString(), "");
                fault(text + " \n", "");
            }
            right(text + ";", 2);
        }
        fault("press tee more 1 if (day=1", "");
        fault("press tee more 1 if (day=1)", "");
        fault("press tee more 1 if day=1 or", "");
        fault("press tee more 1 if day", "");
        fault("press tee more 1 if day<", "");
    }

    /** "Tokens as long as they go: words of letters a to z, digits, signs". */
    private static void tokensAsLongAsTheyGo() {
        fault("", "lucktee 1;");
        fault("", "luckk tee 1;");
        fault("", "luc tee 1;");
        fault("", "l");
        fault("luck ", "teelong 1;");
        fault("luck ", "te 1;");
        fault("luck ", "te");
        fault("luck tee ", "11;");
        fault("luck tee 1 ", "1;");
        fault("luck tee 1", "x;");
        fault("press tee more 1 ", "iff day=1;");
        fault("press tee more 1 if ", "notday=1;");
        fault("press tee more 1 if ", "days=1;");
        fault("press tee more 1 if day=1", "andd hour=1;");
        fault("press tee more 1 if day<", "=1;");
        right("luck tee1;luck long2;", 2);
        right("hour tee1from2;", 1);
        right("press tee more1if day=1and hour<2or(week>3);", 1);
        right("press tee more 1 if not(not(day=1));", 1);
        right("cut1 2;", 1);
        right("cut 1 2;cut0 3;", 2);
        fault("cut ", "12;");
        fault("", "a0;");
    }

    /** "between them blanks (bytes 32 and 10)". */
    private static void blanks() {
        right("\n luck \n\n tee   9 \n ; \n", 1);
        char[] others = {0, 9, 11, 12, 13, 31, 33, 127, 128, 160, 255};
        for (char other : others) {
            fault("luck ", other + "tee 1;");
            fault("luck tee 1", other + ";");
            fault("luck tee 1;", String.valueOf(other));
            fault("", other + "luck tee 1;");
        }
    }

    /** "(or byte that begins none)": the place is that byte's, and only if nothing ahead of it is wrong. */
    private static void bytesThatBeginNoToken() {
        char[] wrong = {'A', 'Z', '@', '[', '`', '{', '/', ':', '-', '+', ',', '.', '"', 0, 128, 255};
        for (char one : wrong) {
            fault("", one + "");
            fault("luck tee ", one + "1;");
            fault("luck tee 1", one + "1;");
            fault("luck", one + " tee 1;");
            fault("luck ", "te" + one + "e 1;");
            fault("press tee more 1 if day=1 ", one + ";");
        }
    }

    /** The texts go on with the words that stand there and with no other. */
    private static void namesOfAllKinds() {
        fault("luck ", "luck 1;");
        fault("drift ", "day 1;");
        fault("hour tee 1 ", "to 2;");
        fault("hour tee 1 ", "2;");
        fault("press tee ", "much 1;");
        fault("press tee ", "if day=1;");
        fault("press tee more ", "if day=1;");
        fault("press tee more 1 ", "when day=1;");
        fault("press tee more 1 ", "more 1;");
        fault("press tee more 1 if ", "tee=1;");
        fault("press tee more 1 if ", "sum=1;");
        fault("press tee more 1 if ", "1=day;");
        fault("press tee more 1 if ", "and day=1;");
        fault("press tee more 1 if day ", "1;");
        fault("press tee more 1 if day ", "(1);");
        fault("press tee more 1 if day=", "day;");
        fault("press tee more 1 if day=1 ", "day=2;");
        fault("press tee more 1 if day=1 ", "not day=2;");
        fault("press tee more 1 if day=1 ", "(day=2);");
        fault("press tee more 1 if day=1 and ", "and day=2;");
        fault("press tee more 1 if day=1 or ", "and day=2;");
        fault("press tee more 1 if not ", "or day=2;");
        fault("press tee more 1 if day=1", ");");
        fault("press tee more 1 if (day=1)", ");");
        fault("press tee more 1 if ((day=1)", ";");
        fault("press tee more 1 if (day=1 ", "(day=2));");
        fault("cut ", "tee 1;");
        fault("weigh 1 ", "more;");
    }

    /** A law may be as long as the tape is. */
    private static void theLongestLaw() {
        String press = "press tee more 1 if day=0" + " or order=7777".repeat(46) + ";";
        String text = press + " ".repeat(688 - press.length()) + "luck long 6;";
        CHECK.due(9, "its length", text.length(), 700);
        CHECK.due(9, "its last rule", right(text, 2).rule(11), 6);
        fault(text.substring(0, 699), "!");
        fault(text.substring(0, 699) + " ", "");
    }

    /** "Of \"drift\", \"luck\" of a PART, \"cut\" of a DAY, \"prize\", \"points\" of a PLACE, \"weigh\" of an AGE the last one holds". */
    private static void lastOneHolds() {
        LuckLinks x = right("drift tee 9;drift tee 0;drift long 0;drift long 9;luck tee 9;luck tee 0;luck last 0;luck last 9;"
                + "cut 0 20;cut 0 1;cut 2 1;cut 2 20;prize 1 9999;prize 1 0;prize 20 0;prize 20 9999;points 1 999;points 1 0;"
                + "points 20 0;points 20 999;weigh 0 20;weigh 0 0;weigh 39 0;weigh 39 20;", 24);
        int[][] want = {{0, 0}, {1, 9}, {2, 0}, {3, 0}, {10, 0}, {13, 9}, {11, 0}, {20, 1}, {21, 0}, {22, 20}, {31, 0}, {50, 9999},
            {32, 0}, {61, 0}, {80, 999}, {79, 0}, {100, 0}, {138, 0}, {139, 20}, {200, 24}};
        for (int[] one : want) {
            CHECK.due(11, "rule(" + one[0] + ")", x.rule(one[0]), one[1]);
        }
    }

    /** "all \"hour\", \"press\" do": forty of them, the same ones, too. */
    private static void allHoursAndPressesDo() {
        LuckLinks x = Check.withPlayers(1);
        CHECK.due(9, "forty hours", Check.law(x, "hour tee 2 from0;".repeat(40)), 40);
        x.run(0, 1);
        CHECK.due(12, "forty times two", x.score(0, 0, 0, 0), 80);
        CHECK.due(9, "forty presses", Check.law(x, "press tee more 2;".repeat(40)), 40);
        x.run(1, 1);
        CHECK.due(12, "forty times two", x.score(0, 1, 0, 0), 80);
        CHECK.due(9, "of both kinds", Check.law(x, "press tee more 20;press tee more 20;press tee less 7;hour tee 5 from 0;"
                + "hour tee 5 from 0;hour tee 9 from 1;"), 6);
        x.run(2, 1);
        CHECK.due(12, "all of them", x.score(0, 2, 0, 0), 43);
    }

    /** "Without: 0, no cut." What the law ahead told is gone. */
    private static void withoutRules() {
        LuckLinks x = new LuckLinks();
        Check.law(x, "drift tee 1;luck tee 2;cut 0 3;prize 1 4;points 1 5;weigh 0 6;hour tee 7 from 0;press tee more 8;");
        CHECK.due(9, "one of another kind", Check.law(x, "drift last 3;"), 1);
        int[] zero = {0, 1, 2, 10, 11, 12, 13, 20, 21, 22, 31, 50, 61, 80};
        for (int what : zero) {
            CHECK.due(11, "rule(" + what + ")", x.rule(what), 0);
        }
        CHECK.due(11, "rule(3)", x.rule(3), 3);
        CHECK.due(11, "a weight", x.rule(100), 1);
        CHECK.due(11, "a weight", x.rule(139), 1);
        x.player(0, 0, 0, 0);
        x.course(30, 0, 0, 0);
        x.week(0, 0);
        x.run(0, 1);
        CHECK.due(12, "no hour, no press, no luck", x.score(0, 0, 0, 0), 30);
    }

    private static final String OF_ALL_KINDS = "drift tee 9;luck tee 9;cut 0 1;cut 2 3;prize 1 4;prize 20 4;points 1 5;points 20 5;"
            + "weigh 0 6;weigh 39 7;hour long 8 from 0;press short more 9 if day<9;press last more 9;";

    /** That a law holds which tells of the drift of the last part alone and of 2 strokes more on the second. */
    private static void onlyFewRules(LuckLinks x, String why) {
        for (int what = 0; what <= 200; what++) {
            int want = what == 3 || what == 200 ? 2 : what >= 100 && what < 140 ? 1 : 0;
            if (x.rule(what) != -1 || what == 200) {
                CHECK.due(11, why + ": rule(" + what + ")", x.rule(what), want);
            }
        }
        x.course(30, 30, 30, 30);
        x.player(0, 0, 0, 0);
        x.player(1, 0, 0, 0);
        x.week(0, 0);
        CHECK.due(12, why + ": no cut", x.run(0, 3), 8);
        for (int day = 0; day < 4; day++) {
            CHECK.due(12, why + ": no luck", x.score(0, 0, day, 0), 30);
            CHECK.due(12, why + ": no hour, but a press", x.score(0, 0, day, 1), 32);
            CHECK.due(12, why + ": no press", x.score(0, 0, day, 2), 30);
        }
    }

    /** "Without: 0, no cut.": however many laws there were ahead. */
    private static void nothingLeftOfOtherLaws() {
        String few = "drift last 2;press long more 2;";
        for (int between = 0; between < 4; between++) {
            LuckLinks x = right(OF_ALL_KINDS, 13);
            for (int i = 0; i < between; i++) {
                CHECK.due(9, "no rules", x.law(0), 0);
            }
            CHECK.due(9, few, Check.law(x, few), 2);
            onlyFewRules(x, between + " laws between");
        }
        LuckLinks y = right(OF_ALL_KINDS, 13);
        CHECK.due(9, "all kinds once more", Check.law(y, OF_ALL_KINDS), 13);
        CHECK.due(9, few, Check.law(y, few), 2);
        onlyFewRules(y, "twice");
    }

    /** "NONE: a FAULT (the one there was stays)": nor does the next law keep any of what was read ahead of it. */
    private static void nothingLeftOfAFault() {
        String few = "drift last 2;press long more 2;";
        String[] begun = {"!", "press tee more 1 if day=9 and (", "press tee more 1 if (day=9 or (not (", "hour long 8",
            "press long less 9 if " + "not ".repeat(9), "press long less 9 if " + "(".repeat(9) + "day=9", "press long less 9 if not"};
        for (String rest : begun) {
            LuckLinks x = new LuckLinks();
            CHECK.due(9, OF_ALL_KINDS + rest, Check.law(x, OF_ALL_KINDS + rest), -1);
            CHECK.due(9, few, Check.law(x, few), 2);
            onlyFewRules(x, "behind " + rest);
            LuckLinks y = new LuckLinks();
            CHECK.due(9, few, Check.law(y, few), 2);
            CHECK.due(9, OF_ALL_KINDS + rest, Check.law(y, OF_ALL_KINDS + rest), -1);
            onlyFewRules(y, "ahead of " + rest);
            // Nothing is open any more, and the conditions told next are as they stand.
            String nine = "press tee more 4 if " + "(not ".repeat(4) + "(day=1)" + ")".repeat(4) + ";";
            CHECK.due(9, nine, Check.law(y, nine), 1);
            y.week(1, 0);
            y.run(1, 3);
            for (int day = 0; day < 4; day++) {
                CHECK.due(12, "day " + day + " behind " + rest, y.score(0, 1, day, 0), day == 1 ? 34 : 30);
            }
        }
    }

    /** Each "press" holds by its own condition, and one without holds always, wherever it stands. */
    private static void pressesBesideOthers() {
        LuckLinks x = Check.withPlayers(1);
        Check.law(x, "press tee more 1 if day=3;press long more 2;press short more 3 if day=0;press last more 4;"
                + "press tee more 5;press long more 6 if not day<2;press short more 7 if day=1 or day=2;press last less 1 if day=9;");
        x.run(0, 1);
        for (int day = 0; day < 4; day++) {
            CHECK.due(12, "tee on day " + day, x.score(0, 0, day, 0), day == 3 ? 6 : 5);
            CHECK.due(12, "long on day " + day, x.score(0, 0, day, 1), day < 2 ? 2 : 8);
            CHECK.due(12, "short on day " + day, x.score(0, 0, day, 2), day == 0 ? 3 : day == 3 ? 0 : 7);
            CHECK.due(12, "last on day " + day, x.score(0, 0, day, 3), 4);
        }
    }
}
