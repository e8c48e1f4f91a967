/** Each sentence on an edge of promises 15 to 19, 29 and 30; the words in quotes are the document's. */
public final class EdgesOfResultsTest {
    private static final Check CHECK = new Check();
    private static final int NO_BACK = -1000000000;

    private EdgesOfResultsTest() {
    }

    public static void main(String[] args) {
        placesAsked();
        placesOfThoseOnEachDay();
        placesOfThoseAlike();
        wonAsked();
        wonInWeeks();
        wonByThoseAlike();
        wonOnTheLastPlaces();
        wonByNobody();
        cutsAsked();
        cutsWithoutRuleOrRounds();
        cutsOfThoseAlike();
        cutsOfAll();
        cutsWithoutTheNextDay();
        luckAsked();
        luckWithoutCouples();
        luckWithoutDifferences();
        luckOfTheMost();
        backAsked();
        backOfTwoAtLeast();
        backOfThoseAlike();
        backOfMoreThanThereAre();
        backOfDays();
        listsAsked();
        listsOfThoseAlike();
        linesAsked();
        linesOfMoreThanThereAre();
        linesWithoutEvenOrOddWeeks();
        linesOfEachHalf();
        CHECK.end("EdgesOfResultsTest");
    }

    /** A week in which each player has one round, the first one best. */
    private static LuckLinks withWeeks(int players, int... weeks) {
        LuckLinks x = Check.withPlayers(players);
        for (int week : weeks) {
            for (int player = 0; player < players; player++) {
                Check.hour(x, player, week, 0, player % 12, 10 + player);
            }
        }
        return x;
    }

    /** "PLACE. NONE: none such (it has none)." */
    private static void placesAsked() {
        LuckLinks x = withWeeks(3, 0, 39);
        CHECK.range(15, "place of a player", p -> x.place(p, 0), 0, 2, -1);
        CHECK.range(15, "place in a week", week -> x.place(0, week), 0, 39, -1);
        CHECK.due(15, "a week without rounds", x.place(0, 1), -1);
        x.player(0, 0, 0, 0);
        CHECK.due(15, "one without a round", x.place(3, 0), -1);
    }

    /** "of those with a ROUND on each DAY on which there is one". */
    private static void placesOfThoseOnEachDay() {
        LuckLinks x = Check.withPlayers(4);
        Check.day(x, 0, 0, 10, 11, 12, -1);
        CHECK.due(15, "the first of three", x.place(0, 0), 1);
        CHECK.due(15, "the last of three", x.place(2, 0), 3);
        Check.day(x, 0, 1, -1, 30, 12, -1);
        CHECK.due(15, "no more", x.place(0, 0), -1);
        CHECK.due(15, "the second of two", x.place(1, 0), 2);
        CHECK.due(15, "the first of two", x.place(2, 0), 1);
        Check.day(x, 0, 2, -1, 99, -1, -1);
        CHECK.due(15, "alone", x.place(1, 0), 1);
        CHECK.due(15, "no more", x.place(2, 0), -1);
        Check.day(x, 0, 3, -1, 99, -1, -1);
        CHECK.due(15, "alone on the last day", x.place(1, 0), 1);
        CHECK.due(15, "never there", x.place(3, 0), -1);
    }

    /** "1 and how many have a lesser sum." */
    private static void placesOfThoseAlike() {
        LuckLinks x = Check.withPlayers(20);
        Check.day(x, 0, 0, 5, 5, 5, 5, 5, 5, 5, 5, 5, 5, 5, 5, 5, 5, 5, 5, 5, 5, 5, 6);
        for (int player = 0; player < 19; player++) {
            CHECK.due(15, "alike", x.place(player, 0), 1);
        }
        CHECK.due(15, "the last of twenty", x.place(19, 0), 20);
        // Sums count, not days: 0 and 1 are alike, 2 is one stroke more.
        LuckLinks y = Check.withPlayers(3);
        Check.day(y, 0, 0, 0, 99, 50);
        Check.day(y, 0, 1, 99, 0, 50);
        CHECK.due(15, "0 and 99", y.place(0, 0), 1);
        CHECK.due(15, "99 and 0", y.place(1, 0), 1);
        CHECK.due(15, "50 and 50", y.place(2, 0), 3);
    }

    /** "NONE: none such." */
    private static void wonAsked() {
        LuckLinks x = withWeeks(3, 0, 39);
        CHECK.range(16, "won by a player", p -> x.won(p, 0, 39, 0), 0, 2, -1);
        CHECK.range(16, "won from a week", from -> x.won(0, from, 39, 0), 0, 39, -1);
        CHECK.range(16, "won to a week", to -> x.won(0, 0, to, 0), 0, 39, -1);
        CHECK.range(16, "won, what", what -> x.won(0, 0, 39, what), 0, 1, -1);
        CHECK.due(16, "from one week to itself", x.won(0, 5, 5, 0), 0);
        CHECK.due(16, "from a week to the one ahead", x.won(0, 5, 4, 0), -1);
    }

    private static void wonInWeeks() {
        LuckLinks x = withWeeks(2, 0, 5, 39);
        Check.law(x, "prize 1 100;prize 2 1;points 1 7;");
        CHECK.due(16, "all weeks", x.won(0, 0, 39, 0), 300);
        CHECK.due(16, "without the last", x.won(0, 0, 38, 0), 200);
        CHECK.due(16, "without the first", x.won(0, 1, 39, 0), 200);
        CHECK.due(16, "the first alone", x.won(1, 0, 0, 0), 1);
        CHECK.due(16, "the last alone", x.won(0, 39, 39, 1), 7);
        CHECK.due(16, "up to one", x.won(0, 4, 5, 1), 7);
        CHECK.due(16, "from one on", x.won(0, 5, 6, 1), 7);
        CHECK.due(16, "behind it", x.won(0, 6, 38, 1), 0);
    }

    /** "those of as many PLACES as they are, that one the first, together, by how many (cut)." */
    private static void wonByThoseAlike() {
        LuckLinks x = Check.withPlayers(4);
        Check.day(x, 0, 0, 5, 5, 6, 6);
        Check.law(x, "prize 1 10;prize 2 5;prize 3 4;prize 4 3;points 1 1;points 4 1;");
        int[] coins = {7, 7, 3, 3};
        for (int player = 0; player < 4; player++) {
            CHECK.due(16, "coins of " + player, x.won(player, 0, 0, 0), coins[player]);
            CHECK.due(16, "points of " + player, x.won(player, 0, 0, 1), 0);
        }
        // Each week is cut by itself: two halves are not one.
        Check.day(x, 1, 0, 5, 5, 6, 6);
        CHECK.due(16, "cut each week", x.won(0, 0, 1, 0), 14);
        CHECK.due(16, "cut each week", x.won(0, 0, 1, 1), 0);
    }

    /** All twenty places, and those alike at their end. */
    private static void wonOnTheLastPlaces() {
        LuckLinks x = withWeeks(20, 0);
        Check.law(x, "prize 19 100;prize 20 9999;points 20 999;points 19 1;");
        CHECK.due(16, "place 18", x.won(17, 0, 0, 0), 0);
        CHECK.due(16, "place 19", x.won(18, 0, 0, 0), 100);
        CHECK.due(16, "place 20", x.won(19, 0, 0, 0), 9999);
        CHECK.due(16, "points of place 20", x.won(19, 0, 0, 1), 999);
        for (int player = 0; player < 20; player++) {
            Check.hour(x, player, 1, 0, 0, player < 18 ? 5 : 6);
            Check.hour(x, player, 2, 0, 0, 5);
        }
        CHECK.due(16, "two alike on place 19", x.won(18, 1, 1, 0), 5049);
        CHECK.due(16, "two alike on place 19", x.won(19, 1, 1, 1), 500);
        CHECK.due(16, "all alike", x.won(0, 2, 2, 0), 504);
        CHECK.due(16, "all alike", x.won(19, 2, 2, 1), 50);
    }

    private static void wonByNobody() {
        LuckLinks x = Check.withPlayers(2);
        Check.law(x, "prize 1 100;prize 2 50;");
        CHECK.due(16, "no rounds", x.won(0, 0, 39, 0), 0);
        Check.day(x, 0, 0, 5, 6);
        CHECK.due(16, "the second", x.won(1, 0, 39, 0), 50);
        Check.day(x, 0, 1, -1, 6);
        CHECK.due(16, "one without the next day", x.won(0, 0, 39, 0), 0);
        CHECK.due(16, "the one who has it", x.won(1, 0, 39, 0), 100);
        Check.law(x, "");
        CHECK.due(16, "\"Without: 0\"", x.won(1, 0, 39, 0), 0);
    }

    private static void cutsAsked() {
        LuckLinks x = Check.withPlayers(2);
        Check.law(x, "cut 0 1;cut 1 1;cut 2 1;");
        for (int day = 0; day < 4; day++) {
            Check.day(x, 0, day, 10, 11);
            Check.day(x, 39, day, 10, 11);
        }
        CHECK.range(17, "cut in a week", week -> x.cut(week, 0, 0), 0, 39, -1);
        CHECK.range(17, "cut of a day", day -> x.cut(0, day, 0), 0, 2, -1);
        CHECK.range(17, "cut, what", what -> x.cut(0, 0, what), 0, 3, -1);
    }

    /** "NONE: none such, no \"cut\" of it, no ROUNDS on it." */
    private static void cutsWithoutRuleOrRounds() {
        LuckLinks x = Check.withPlayers(2);
        Check.day(x, 0, 0, 10, 11);
        CHECK.due(17, "no cut", x.cut(0, 0, 0), -1);
        Check.law(x, "cut 1 1;");
        CHECK.due(17, "no cut of day 0", x.cut(0, 0, 0), -1);
        CHECK.due(17, "no rounds on day 1", x.cut(0, 1, 0), -1);
        Check.day(x, 0, 1, 10, -1);
        CHECK.due(17, "one round on day 1", x.cut(0, 1, 0), 1);
        CHECK.due(17, "it goes on", x.cut(0, 1, 1), 1);
        CHECK.due(17, "its sum", x.cut(0, 1, 2), 20);
        CHECK.due(17, "it has no next one", x.cut(0, 1, 3), 1);
        CHECK.due(17, "no rounds in week 1", x.cut(1, 1, 0), -1);
        Check.law(x, "cut 0 1;");
        CHECK.due(17, "no cut of day 1 any more", x.cut(0, 1, 0), -1);
        CHECK.due(17, "one of day 0", x.cut(0, 0, 0), 2);
        CHECK.due(17, "no rounds in week 39", x.cut(39, 0, 0), -1);
    }

    private static void cut(LuckLinks x, int day, int... want) {
        for (int what = 0; what < 4; what++) {
            CHECK.due(17, "cut(0, " + day + ", " + what + ")", x.cut(0, day, what), want[what]);
        }
    }

    private static void cutsOfThoseAlike() {
        LuckLinks x = Check.withPlayers(6);
        Check.day(x, 0, 0, 34, 31, 32, 32, 32, 33);
        int[] goOn = {1, 4, 4, 4, 5, 6};
        int[] greatest = {31, 32, 32, 32, 33, 34};
        for (int keep = 1; keep <= 6; keep++) {
            Check.law(x, "cut 0 " + keep + ";");
            cut(x, 0, 6, goOn[keep - 1], greatest[keep - 1], goOn[keep - 1]);
        }
        LuckLinks zero = Check.withPlayers(2);
        Check.day(zero, 0, 0, 0, 0);
        Check.law(zero, "cut 0 1;");
        cut(zero, 0, 2, 2, 0, 2);
    }

    /** "(all, if there are not so many)". */
    private static void cutsOfAll() {
        LuckLinks x = Check.withPlayers(3);
        Check.day(x, 0, 0, 10, 11, 12);
        Check.law(x, "cut 0 2;");
        cut(x, 0, 3, 2, 11, 2);
        Check.law(x, "cut 0 3;");
        cut(x, 0, 3, 3, 12, 3);
        Check.law(x, "cut 0 4;");
        cut(x, 0, 3, 3, 12, 3);
        Check.law(x, "cut 0 20;");
        cut(x, 0, 3, 3, 12, 3);
        LuckLinks full = withWeeks(20, 0);
        Check.law(full, "cut 0 20;");
        cut(full, 0, 20, 20, 29, 20);
        Check.law(full, "cut 0 19;");
        cut(full, 0, 20, 19, 28, 19);
        Check.law(full, "cut 0 1;");
        cut(full, 0, 20, 1, 10, 1);
    }

    /** "how many that go on by it have no ROUND on the next DAY", up to day 2 and the one behind it. */
    private static void cutsWithoutTheNextDay() {
        LuckLinks x = Check.withPlayers(4);
        Check.law(x, "cut 0 3;cut 1 2;cut 2 1;");
        Check.day(x, 0, 0, 10, 11, 12, 13);
        Check.day(x, 0, 1, 10, -1, 12, 1);
        Check.day(x, 0, 2, 10, -1, -1, 1);
        // On day 0 three go on, 1 of them not there on day 1; 3 is there, though it doesn't go on by the cut.
        cut(x, 0, 4, 3, 12, 1);
        cut(x, 1, 3, 2, 20, 0);
        cut(x, 2, 2, 1, 15, 1);
        Check.day(x, 0, 3, 9, -1, -1, -1);
        cut(x, 2, 2, 1, 15, 1);
        Check.day(x, 0, 3, -1, -1, -1, 9);
        cut(x, 2, 2, 1, 15, 0);
    }

    private static void luckAsked() {
        LuckLinks x = Check.withPlayers(2);
        int all = 1010101;
        int[] weeks = {0, 39};
        for (int week : weeks) {
            x.round(0, week, 0, all);
            x.round(1, week, 0, 2 * all);
            x.round(0, week, 12, 3 * all);
        }
        CHECK.range(18, "luck by a part", part -> x.luck(part, 0, 39, 0), -1, 3, -1);
        CHECK.range(18, "luck from a week", from -> x.luck(0, from, 39, 0), 0, 39, -1);
        CHECK.range(18, "luck to a week", to -> x.luck(0, 0, to, 0), 0, 39, -1);
        CHECK.range(18, "luck, what", what -> x.luck(0, 0, 39, what), 0, 1, -1);
        CHECK.due(18, "from a week to the one ahead", x.luck(0, 1, 0, 0), -1);
        CHECK.due(18, "in lowest terms: 8/2 by 2/2", x.luck(0, 0, 39, 0), 4);
        CHECK.due(18, "in lowest terms", x.luck(0, 0, 39, 1), 1);
        CHECK.due(18, "weeks without rounds", x.luck(0, 1, 38, 0), -1);
    }

    private static void noLuck(LuckLinks x, String why) {
        CHECK.due(18, why, x.luck(0, 0, 39, 0), -1);
        CHECK.due(18, why, x.luck(0, 0, 39, 1), -1);
    }

    /** "no couples of one kind". */
    private static void luckWithoutCouples() {
        LuckLinks x = Check.withPlayers(2);
        noLuck(x, "no rounds");
        Check.day(x, 0, 0, 10, -1);
        noLuck(x, "one round");
        Check.day(x, 0, 1, 12, -1);
        noLuck(x, "one player alone");
        Check.day(x, 1, 0, -1, 20);
        noLuck(x, "two players in unlike weeks");
        LuckLinks y = Check.withPlayers(2);
        Check.day(y, 0, 0, 10, 20);
        noLuck(y, "one round of each");
        Check.day(y, 1, 0, 12, 20);
        noLuck(y, "one round of each in each week: no couple of one week");
        Check.day(y, 1, 1, 13, -1);
        // Own: 1; unlike: 100 and 64 by two: the second day has one round only.
        CHECK.due(18, "1 by 82", y.luck(0, 0, 39, 0), 1);
        CHECK.due(18, "1 by 82", y.luck(0, 0, 39, 1), 82);
    }

    /** "no difference of unlike ones"; none of one player's own is 0. */
    private static void luckWithoutDifferences() {
        LuckLinks x = Check.withPlayers(2);
        Check.day(x, 0, 0, 10, 10);
        Check.day(x, 0, 1, 12, 12);
        noLuck(x, "unlike ones are alike");
        LuckLinks y = Check.withPlayers(2);
        Check.day(y, 0, 0, 10, 13);
        Check.day(y, 0, 1, 10, 13);
        CHECK.due(18, "0 by 9", y.luck(0, 0, 0, 0), 0);
        CHECK.due(18, "in lowest terms", y.luck(0, 0, 0, 1), 1);
        CHECK.due(18, "the other parts are all alike", y.luck(1, 0, 0, 0), -1);
        CHECK.due(18, "all parts together", y.luck(-1, 0, 0, 0), 0);
    }

    /** All rounds there can be, with the greatest differences. */
    private static void luckOfTheMost() {
        LuckLinks x = new LuckLinks();
        for (int player = 0; player < 20; player++) {
            x.player(player % 2 == 0 ? 20 : -20, 0, 0, 0);
        }
        x.course(20, 0, 60, 60);
        Check.law(x, "press tee more 20 if day=0;press last more 20 if hour>5;luck long 9;");
        for (int week = 0; week < 15; week++) {
            x.week(week, 0);
            x.run(week, 0xfffff);
        }
        long[] squares = new long[2];
        long[] couples = new long[2];
        int[][] values = new int[20][4];
        for (int player = 0; player < 20; player++) {
            for (int day = 0; day < 4; day++) {
                values[player][day] = x.score(player, 14, day, -1);
            }
        }
        for (int a = 0; a < 80; a++) {
            for (int b = 0; b < a; b++) {
                int kind = a / 4 == b / 4 ? 0 : a % 4 == b % 4 ? 1 : 2;
                if (kind < 2) {
                    long difference = values[a / 4][a % 4] - values[b / 4][b % 4];
                    squares[kind] += difference * difference;
                    couples[kind]++;
                }
            }
        }
        CHECK.due(18, "couples of one", couples[0], 120);
        CHECK.due(18, "couples of unlike ones", couples[1], 760);
        long upper = squares[0] * couples[1];
        long lower = couples[0] * squares[1];
        CHECK.due(18, "luck", x.luck(-1, 14, 14, 0) * lower, x.luck(-1, 14, 14, 1) * upper);
        CHECK.due(18, "luck of all weeks", x.luck(-1, 0, 39, 0) > 0, true);
    }

    private static void backAsked() {
        LuckLinks x = Check.withPlayers(2);
        for (int day = 0; day < 4; day++) {
            Check.day(x, 0, day, 10, 11);
            Check.day(x, 39, day, 10, 11);
        }
        CHECK.range(19, "back from a day", day -> x.back(day, 1, 0, 39, 0), 0, 2, NO_BACK);
        CHECK.range(19, "back of k", k -> x.back(0, k, 0, 39, 0), 1, 20, NO_BACK);
        CHECK.range(19, "back from a week", from -> x.back(0, 1, from, 39, 0), 0, 39, NO_BACK);
        CHECK.range(19, "back to a week", to -> x.back(0, 1, 0, to, 0), 0, 39, NO_BACK);
        CHECK.range(19, "back, what", what -> x.back(0, 1, 0, 39, what), 0, 2, NO_BACK);
        CHECK.due(19, "from a week to the one ahead", x.back(0, 1, 1, 0, 0), NO_BACK);
        CHECK.due(19, "both weeks", x.back(0, 1, 0, 39, 0), 2);
        CHECK.due(19, "without the first", x.back(0, 1, 1, 39, 0), 1);
        CHECK.due(19, "without the last", x.back(0, 1, 0, 38, 2), 1);
        CHECK.due(19, "weeks without rounds", x.back(0, 1, 1, 38, 2), 0);
    }

    private static void back(LuckLinks x, int day, int k, int... want) {
        for (int what = 0; what < 3; what++) {
            CHECK.due(19, "back(" + day + ", " + k + ", 0, 39, " + what + ")", x.back(day, k, 0, 39, what), want[what]);
        }
    }

    /** "those with a ROUND on it and on the next; with two at least". */
    private static void backOfTwoAtLeast() {
        LuckLinks x = Check.withPlayers(4);
        back(x, 0, 1, 0, 0, 0);
        Check.day(x, 0, 0, 10, 12, 14, 1);
        back(x, 0, 1, 0, 0, 0);
        Check.day(x, 0, 1, 20, -1, -1, -1);
        back(x, 0, 1, 0, 0, 0);
        Check.day(x, 0, 1, -1, 19, -1, -1);
        // 0 and 1: 22 less twice 10; 39 less twice 20. 3, the least on day 0, isn't of them.
        back(x, 0, 1, 2, -1, 1);
        back(x, 1, 1, 0, 0, 0);
    }

    /** "by sums up to that DAY, of several by numbers". */
    private static void backOfThoseAlike() {
        LuckLinks x = Check.withPlayers(3);
        Check.day(x, 0, 0, 10, 10, 10);
        Check.day(x, 0, 1, 13, 12, 11);
        Check.day(x, 0, 2, 1, 2, 3);
        back(x, 0, 1, 0, 36 - 39, 1);
        back(x, 0, 2, 0, -3 + 0, 2);
        // Ahead of day 2 the last one leads, by sums.
        back(x, 1, 1, 36 - 33, 6 - 9, 1);
        LuckLinks y = Check.withPlayers(2);
        Check.day(y, 0, 0, 20, 10);
        Check.day(y, 0, 1, 10, 15);
        Check.day(y, 0, 2, 9, 5);
        // Sums 30 and 25: the second leads, though the first was less on day 1.
        back(y, 1, 1, 25 - 30, 14 - 10, 1);
    }

    private static void backOfMoreThanThereAre() {
        LuckLinks x = Check.withPlayers(3);
        Check.day(x, 0, 0, 10, 20, 30);
        Check.day(x, 0, 1, 10, 20, 60);
        back(x, 0, 2, 60 - 30 + 60 - 60, 90 - 30 + 90 - 60, 2);
        back(x, 0, 3, 0, 0, 3);
        back(x, 0, 4, 0, 0, 3);
        back(x, 0, 20, 0, 0, 3);
        LuckLinks full = Check.withPlayers(20);
        full.run(0, 0xfffff);
        full.run(1, 0xfffff);
        back(full, 2, 20, 0, 0, 40);
        back(full, 2, 19, 0, 0, 38);
    }

    /** "BACK of WEEKS from a DAY (0 to 2)": each with the one behind it. */
    private static void backOfDays() {
        LuckLinks x = Check.withPlayers(2);
        int[][] strokes = {{1, 3}, {10, 15}, {20, 28}, {40, 47}};
        for (int day = 0; day < 4; day++) {
            Check.day(x, 0, day, strokes[day]);
        }
        back(x, 0, 1, 2, 5, 1);
        back(x, 1, 1, 5, 8, 1);
        back(x, 2, 1, 8, 7, 1);
    }

    /** "The k-th on the LIST (0 on). NONE: none such." */
    private static void listsAsked() {
        LuckLinks x = withWeeks(3, 0, 39);
        Check.law(x, "points 1 5;");
        CHECK.range(29, "listed, k", k -> x.listed(0, 39, k), 0, 2, -1);
        CHECK.range(29, "listed from a week", from -> x.listed(from, 39, 0), 0, 39, -1);
        CHECK.range(29, "listed to a week", to -> x.listed(0, to, 0), 0, 39, -1);
        CHECK.due(29, "from a week to the one ahead", x.listed(1, 0, 0), -1);
        CHECK.due(29, "as many as there are players", x.listed(0, 39, 3), -1);
        x.player(0, 0, 0, 0);
        CHECK.due(29, "one more, without rounds", x.listed(0, 39, 3), 3);
        LuckLinks full = Check.withPlayers(20);
        CHECK.range(29, "listed, k of twenty", k -> full.listed(0, 0, k), 0, 19, -1);
    }

    /** "PLAYERS by their POINTS together, the most first, of several the least number." */
    private static void listsOfThoseAlike() {
        LuckLinks x = Check.withPlayers(4);
        for (int k = 0; k < 4; k++) {
            CHECK.due(29, "nobody has any", x.listed(0, 39, k), k);
        }
        Check.law(x, "points 1 2;points 2 1;");
        Check.day(x, 0, 0, -1, 11, 10, 12);
        Check.day(x, 1, 0, -1, 10, 11, 12);
        int[] want = {1, 2, 0, 3};
        for (int k = 0; k < 4; k++) {
            CHECK.due(29, "three each, none each", x.listed(0, 1, k), want[k]);
        }
        CHECK.due(29, "week 0 alone", x.listed(0, 0, 0), 2);
        CHECK.due(29, "week 1 alone", x.listed(1, 1, 0), 1);
    }

    private static void linesAsked() {
        LuckLinks x = withWeeks(3, 0, 39);
        CHECK.range(30, "line at k", k -> x.line(k, 0, 39, 0), 1, 20, -1);
        CHECK.range(30, "line from a week", from -> x.line(1, from, 39, 0), 0, 39, -1);
        CHECK.range(30, "line to a week", to -> x.line(1, 0, to, 0), 0, 39, -1);
        CHECK.range(30, "line, what", what -> x.line(1, 0, 39, what), 0, 2, -1);
        CHECK.due(30, "from a week to the one ahead", x.line(1, 1, 0, 0), -1);
    }

    private static void linesOfMoreThanThereAre() {
        LuckLinks x = Check.withPlayers(3);
        Check.law(x, "points 1 3;points 2 2;points 3 1;");
        Check.day(x, 0, 0, 10, 11, 12);
        Check.day(x, 1, 0, 12, 10, 11);
        // Even: 3, 2, 1; odd: 1, 3, 2; all: 4, 5, 3: 1, 0, 2.
        CHECK.due(30, "the first by even ones", x.line(1, 0, 1, 0), 1);
        CHECK.due(30, "the first by odd ones", x.line(1, 0, 1, 1), 0);
        CHECK.due(30, "two by even ones", x.line(2, 0, 1, 0), 0);
        CHECK.due(30, "two by odd ones", x.line(2, 0, 1, 1), 1);
        for (int what = 0; what < 3; what++) {
            CHECK.due(30, "all three", x.line(3, 0, 1, what), 0);
            CHECK.due(30, "more than there are", x.line(4, 0, 1, what), 0);
            CHECK.due(30, "the most", x.line(20, 0, 1, what), 0);
        }
    }

    /** One half has no weeks: there nobody has points, the least numbers are first. */
    private static void linesWithoutEvenOrOddWeeks() {
        LuckLinks x = Check.withPlayers(3);
        Check.law(x, "points 1 3;");
        Check.day(x, 2, 0, 11, 12, 10);
        CHECK.due(30, "by the even ones", x.line(1, 2, 2, 0), 0);
        CHECK.due(30, "by the odd ones, of which there are none", x.line(1, 2, 2, 1), 1);
        CHECK.due(30, "by neither", x.line(1, 2, 2, 2), 0);
        Check.day(x, 3, 0, 12, 11, 10);
        CHECK.due(30, "by the even ones, of which there are none", x.line(1, 3, 3, 0), 1);
        CHECK.due(30, "by the odd ones", x.line(1, 3, 3, 1), 0);
        CHECK.due(30, "weeks without rounds", x.line(1, 4, 39, 0), 0);
    }

    /** Week 0 is even, week 39 odd, wherever the weeks begin. */
    private static void linesOfEachHalf() {
        LuckLinks x = Check.withPlayers(2);
        Check.law(x, "points 1 3;points 2 2;");
        Check.day(x, 38, 0, 11, 10);
        Check.day(x, 39, 0, 10, 11);
        // All: 5 and 5: 0 is first. By week 38: 1; by week 39: 0.
        CHECK.due(30, "by week 38", x.line(1, 0, 39, 0), 1);
        CHECK.due(30, "by week 39", x.line(1, 0, 39, 1), 0);
        CHECK.due(30, "by week 38, from an odd one on", x.line(1, 37, 39, 0), 1);
        CHECK.due(30, "by neither", x.line(1, 37, 39, 2), 0);
    }
}
