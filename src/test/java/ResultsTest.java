/** PLACES, prizes, cuts, LUCK, LEADERS and LISTS: promises 15 to 19, 29 and 30. */
public final class ResultsTest {
    private static final Check CHECK = new Check();

    private ResultsTest() {
    }

    public static void main(String[] args) {
        places();
        won();
        wonWrong();
        cuts();
        luck();
        luckWrong();
        back();
        backWrong();
        lists();
        lines();
        CHECK.end("ResultsTest");
    }

    /** One round of each player on a day, all strokes on the last part; below 0: none. */
    private static void day(LuckLinks x, int week, int day, int... strokes) {
        for (int p = 0; p < strokes.length; p++) {
            if (strokes[p] >= 0) {
                CHECK.due(5, "round", x.round(p, week, 12 * day + p % 12, strokes[p] * 1000000) >= 0, true);
            }
        }
    }

    private static void places() {
        LuckLinks x = Check.withPlayers(5);
        CHECK.due(15, "place without rounds", x.place(0, 0), -1);
        day(x, 0, 0, 10, 12, 10, 9, -1);
        int[] want = {2, 4, 2, 1, -1};
        for (int p = 0; p < 5; p++) {
            CHECK.due(15, "place by day 0", x.place(p, 0), want[p]);
        }
        day(x, 0, 1, 10, 7, 10, -1, -1);
        int[] later = {2, 1, 2, -1, -1};
        for (int p = 0; p < 5; p++) {
            CHECK.due(15, "place by days 0 and 1", x.place(p, 0), later[p]);
        }
        day(x, 0, 2, 10, -1, -1, -1, -1);
        int[] last = {1, -1, -1, -1, -1};
        for (int p = 0; p < 5; p++) {
            CHECK.due(15, "place by days 0 to 2", x.place(p, 0), last[p]);
        }
        CHECK.due(15, "place in another week", x.place(0, 1), -1);
        CHECK.due(15, "place of no player", x.place(5, 0), -1);
        CHECK.due(15, "place of player -1", x.place(-1, 0), -1);
        CHECK.due(15, "place in week 40", x.place(0, 40), -1);
        CHECK.due(15, "place in week -1", x.place(0, -1), -1);
    }

    private static void won() {
        LuckLinks x = Check.withPlayers(6);
        day(x, 0, 0, 5, 6, 6, 6, 8, -1);
        day(x, 2, 0, 9, 9, 9, 9, 9, 1);
        day(x, 3, 0, 7, 7, -1, -1, -1, -1);
        CHECK.due(16, "won without a rule", x.won(0, 0, 39, 0), 0);
        Check.law(x, "prize 1 1000;prize 2 500;prize 3 300;prize 4 201;prize 5 77;points 1 10;points 2 5;points 4 3;");
        int[] coins = {1000, 333, 333, 333, 77, 0};
        int[] points = {10, 2, 2, 2, 0, 0};
        for (int p = 0; p < 6; p++) {
            CHECK.due(16, "coins in week 0", x.won(p, 0, 0, 0), coins[p]);
            CHECK.due(16, "points in week 0", x.won(p, 0, 0, 1), points[p]);
        }
        // Week 2: five alike on place 2: 500 + 300 + 201 + 77 + 0 by five.
        CHECK.due(16, "coins in week 2", x.won(0, 2, 2, 0), 215);
        CHECK.due(16, "coins in week 2", x.won(5, 2, 2, 0), 1000);
        CHECK.due(16, "points in week 2", x.won(4, 2, 2, 1), 1);
        CHECK.due(16, "coins in week 3", x.won(1, 3, 3, 0), 750);
        CHECK.due(16, "coins in weeks 0 to 3", x.won(1, 0, 3, 0), 333 + 215 + 750);
        CHECK.due(16, "coins in weeks 1 to 2", x.won(1, 1, 2, 0), 215);
        CHECK.due(16, "coins in weeks 0 to 39", x.won(1, 0, 39, 0), 333 + 215 + 750);
        CHECK.due(16, "points in weeks 0 to 39", x.won(0, 0, 39, 1), 10 + 1 + 7);
        CHECK.due(16, "coins in weeks 4 to 39", x.won(1, 4, 39, 0), 0);
        // Behind a cut that hides some: those without the second day have no place.
        day(x, 0, 1, -1, 9, -1, -1, -1, -1);
        CHECK.due(16, "coins of one who didn't go on", x.won(0, 0, 0, 0), 0);
        CHECK.due(16, "coins of the one who did", x.won(1, 0, 0, 0), 1000);
    }

    private static void wonWrong() {
        LuckLinks x = Check.withPlayers(1);
        CHECK.due(16, "won of no player", x.won(1, 0, 0, 0), -1);
        CHECK.due(16, "won of player -1", x.won(-1, 0, 0, 0), -1);
        CHECK.due(16, "won from -1", x.won(0, -1, 0, 0), -1);
        CHECK.due(16, "won to 40", x.won(0, 0, 40, 0), -1);
        CHECK.due(16, "won from 2 to 1", x.won(0, 2, 1, 0), -1);
        CHECK.due(16, "won, what 2", x.won(0, 0, 0, 2), -1);
        CHECK.due(16, "won, what -1", x.won(0, 0, 0, -1), -1);
        LuckLinks full = Check.withPlayers(20);
        day(full, 0, 0, new int[20]);
        Check.law(full, "prize 20 100;prize 1 60;");
        CHECK.due(16, "all twenty alike", full.won(19, 0, 0, 0), 8);
    }

    private static void cuts() {
        LuckLinks x = Check.withPlayers(5);
        day(x, 0, 0, 10, 11, 12, 13, 14);
        day(x, 0, 1, 10, 10, 9, 9, -1);
        day(x, 0, 2, 10, -1, -1, 5, -1);
        CHECK.due(17, "no cut", x.cut(0, 1, 0), -1);
        Check.law(x, "cut 0 3;cut 1 2;");
        int[] first = {5, 3, 12, 0};
        int[] second = {4, 3, 21, 2};
        for (int what = 0; what < 4; what++) {
            CHECK.due(17, "cut(0, 0, " + what + ")", x.cut(0, 0, what), first[what]);
            CHECK.due(17, "cut(0, 1, " + what + ")", x.cut(0, 1, what), second[what]);
            CHECK.due(17, "no cut of day 2", x.cut(0, 2, what), -1);
            CHECK.due(17, "no rounds in week 1", x.cut(1, 0, what), -1);
        }
        Check.law(x, "cut 0 20;cut 2 1;");
        int[] all = {5, 5, 14, 1};
        int[] third = {2, 1, 27, 1};
        for (int what = 0; what < 4; what++) {
            CHECK.due(17, "all, if there are not so many", x.cut(0, 0, what), all[what]);
            CHECK.due(17, "cut(0, 2, " + what + ")", x.cut(0, 2, what), third[what]);
        }
        CHECK.due(17, "cut of day 3", x.cut(0, 3, 0), -1);
        CHECK.due(17, "cut of day -1", x.cut(0, -1, 0), -1);
        CHECK.due(17, "cut in week 40", x.cut(40, 0, 0), -1);
        CHECK.due(17, "cut in week -1", x.cut(-1, 0, 0), -1);
        CHECK.due(17, "cut, what 4", x.cut(0, 0, 4), -1);
        CHECK.due(17, "cut, what -1", x.cut(0, 0, -1), -1);
    }

    private static void luck(LuckLinks x, int part, int from, int to, long up, long low) {
        CHECK.due(18, "luck " + part + " from " + from + " to " + to, x.luck(part, from, to, 0), up);
        CHECK.due(18, "luck " + part + " from " + from + " to " + to, x.luck(part, from, to, 1), low);
    }

    private static void luck() {
        LuckLinks x = Check.withPlayers(3);
        day(x, 0, 0, 10, 13, -1);
        luck(x, -1, 0, 0, -1, -1);
        day(x, 0, 1, 12, -1, -1);
        // One couple of one player, 4; one of unlike ones, 9.
        luck(x, -1, 0, 0, 4, 9);
        luck(x, 3, 0, 0, 4, 9);
        luck(x, 0, 0, 0, -1, -1);
        day(x, 1, 0, 10, 10, 16);
        day(x, 1, 1, 10, 11, 10);
        day(x, 1, 2, 11, -1, -1);
        // Own: player 0: 0, 1, 1; player 1: 1; player 2: 36: 39 by 5. Unlike: 0, 36, 36; 1, 0, 1: 74 by 6: 234 by 370.
        luck(x, -1, 1, 1, 117, 185);
        // Together: 43 by 6, 83 by 7.
        luck(x, -1, 0, 39, 301, 498);
        luck(x, -1, 0, 1, 301, 498);
        luck(x, -1, 2, 39, -1, -1);
        day(x, 5, 0, 10, 13, -1);
        day(x, 5, 1, 10, 13, -1);
        luck(x, -1, 5, 5, 0, 1);
    }

    private static void luckWrong() {
        LuckLinks x = Check.withPlayers(2);
        day(x, 0, 0, 10, 13);
        day(x, 0, 1, 10, 14);
        CHECK.due(18, "luck", x.luck(-1, 0, 0, 0), 1);
        CHECK.due(18, "luck by -2", x.luck(-2, 0, 0, 0), -1);
        CHECK.due(18, "luck by 4", x.luck(4, 0, 0, 0), -1);
        CHECK.due(18, "luck from -1", x.luck(-1, -1, 0, 0), -1);
        CHECK.due(18, "luck to 40", x.luck(-1, 0, 40, 0), -1);
        CHECK.due(18, "luck from 1 to 0", x.luck(-1, 1, 0, 0), -1);
        CHECK.due(18, "luck, what 2", x.luck(-1, 0, 0, 2), -1);
        CHECK.due(18, "luck, what -1", x.luck(-1, 0, 0, -1), -1);
        LuckLinks one = Check.withPlayers(1);
        day(one, 0, 0, 10);
        day(one, 0, 1, 12);
        CHECK.due(18, "no couples of unlike players", one.luck(-1, 0, 0, 0), -1);
    }

    private static void back(LuckLinks x, int day, int k, int from, int to, int... want) {
        for (int what = 0; what < 3; what++) {
            String call = "back(" + day + ", " + k + ", " + from + ", " + to + ", " + what + ")";
            CHECK.due(19, call, x.back(day, k, from, to, what), want[what]);
        }
    }

    private static void back() {
        LuckLinks x = Check.withPlayers(5);
        day(x, 0, 0, 10, 20, 11, 11, 1);
        day(x, 0, 1, 14, 10, 12, 13, -1);
        // Those of day 0 and 1: 10, 20, 11, 11 (52) and 14, 10, 12, 13 (49); player 4 isn't of them.
        back(x, 0, 1, 0, 0, 52 - 40, 49 - 56, 1);
        back(x, 0, 2, 0, 0, 12 + 8, -7 + 1, 2);
        back(x, 0, 3, 0, 0, 12 + 8 + 8, -7 + 1 - 3, 3);
        back(x, 0, 20, 0, 0, 0, 0, 4);
        back(x, 1, 1, 0, 0, 0, 0, 0);
        day(x, 0, 2, 9, 9, 3, -1, -1);
        // Sums up to day 1: 24, 30, 23: player 2 leads. On day 1 36 together, on day 2 21.
        back(x, 1, 1, 0, 0, 36 - 36, 21 - 9, 1);
        back(x, 1, 2, 0, 0, 0 - 6, 12 - 6, 2);
        day(x, 0, 3, 5, -1, -1, -1, -1);
        // One alone leads nobody.
        back(x, 2, 1, 0, 0, 0, 0, 0);
        day(x, 3, 0, 4, 5, -1, -1, -1);
        day(x, 3, 1, 9, 7, -1, -1, -1);
        back(x, 0, 1, 3, 3, 1, -2, 1);
        back(x, 0, 1, 0, 39, 13, -9, 2);
        back(x, 0, 20, 0, 3, 0, 0, 6);
        back(x, 0, 1, 4, 39, 0, 0, 0);
    }

    private static void backWrong() {
        LuckLinks x = Check.withPlayers(2);
        int none = -1000000000;
        CHECK.due(19, "back of day 3", x.back(3, 1, 0, 0, 0), none);
        CHECK.due(19, "back of day -1", x.back(-1, 1, 0, 0, 0), none);
        CHECK.due(19, "back of 0", x.back(0, 0, 0, 0, 0), none);
        CHECK.due(19, "back of 21", x.back(0, 21, 0, 0, 0), none);
        CHECK.due(19, "back from -1", x.back(0, 1, -1, 0, 0), none);
        CHECK.due(19, "back to 40", x.back(0, 1, 0, 40, 0), none);
        CHECK.due(19, "back from 1 to 0", x.back(0, 1, 1, 0, 0), none);
        CHECK.due(19, "back, what 3", x.back(0, 1, 0, 0, 3), none);
        CHECK.due(19, "back, what -1", x.back(0, 1, 0, 0, -1), none);
    }

    private static void lists() {
        LuckLinks x = Check.withPlayers(4);
        Check.law(x, "points 1 10;points 2 6;points 3 3;");
        day(x, 0, 0, 5, 4, -1, -1);
        day(x, 1, 0, -1, -1, 5, 4);
        day(x, 2, 0, 4, 5, 6, 3);
        // Weeks 0 to 2: 0: 6 + 6, 1: 10 + 3, 2: 6 + 0, 3: 10 + 10.
        int[] all = {3, 1, 0, 2};
        int[] first = {1, 0, 2, 3};
        int[] none = {0, 1, 2, 3};
        for (int k = 0; k < 4; k++) {
            CHECK.due(29, "listed(0, 2, " + k + ")", x.listed(0, 2, k), all[k]);
            CHECK.due(29, "listed(0, 0, " + k + ")", x.listed(0, 0, k), first[k]);
            CHECK.due(29, "listed(5, 6, " + k + ")", x.listed(5, 6, k), none[k]);
        }
        // 1 and 3 are alike with 10: the lesser number first.
        CHECK.due(29, "listed(0, 1, 0)", x.listed(0, 1, 0), 1);
        CHECK.due(29, "listed(0, 1, 1)", x.listed(0, 1, 1), 3);
        CHECK.due(29, "listed, k 4", x.listed(0, 2, 4), -1);
        CHECK.due(29, "listed, k -1", x.listed(0, 2, -1), -1);
        CHECK.due(29, "listed from -1", x.listed(-1, 2, 0), -1);
        CHECK.due(29, "listed to 40", x.listed(0, 40, 0), -1);
        CHECK.due(29, "listed from 2 to 1", x.listed(2, 1, 0), -1);
    }

    private static void lines() {
        LuckLinks x = Check.withPlayers(5);
        Check.law(x, "points 1 10;points 2 9;points 3 5;points 4 1;");
        day(x, 2, 0, 4, 9, 5, 6, 7);
        day(x, 3, 0, 9, 4, 7, 6, 5);
        // Even: 0: 10, 2: 9, 3: 5, 4: 1, 1: 0. Odd: 1: 10, 4: 9, 3: 5, 2: 1, 0: 0.
        // All: 0, 1, 2, 3, 4: 10, 10, 10, 10, 10.
        int[][] want = {{0, 1, 0}, {1, 1, 0}, {1, 2, 0}, {1, 1, 0}, {0, 0, 0}};
        for (int k = 1; k <= 5; k++) {
            for (int what = 0; what < 3; what++) {
                CHECK.due(30, "line(" + k + ", 2, 3, " + what + ")", x.line(k, 2, 3, what), want[k - 1][what]);
            }
        }
        day(x, 4, 0, -1, -1, -1, 1, 2);
        day(x, 5, 0, -1, -1, -1, 2, 1);
        // Even: 3: 15, 0 and 4: 10, 2: 9. Odd: 4: 19, 3: 14, 1: 10. All: 3 and 4: 29, 0, 1, 2: 10.
        CHECK.due(30, "by even ones", x.line(2, 0, 39, 0), 1);
        CHECK.due(30, "by odd ones", x.line(2, 0, 39, 1), 0);
        CHECK.due(30, "by odd ones, one", x.line(1, 0, 39, 1), 1);
        CHECK.due(30, "by even ones, one", x.line(1, 0, 39, 0), 0);
        // Of week 3 alone the even ones bring nobody a point: the least number is the first.
        CHECK.due(30, "weeks without an even one", x.line(1, 3, 3, 0), 1);
        CHECK.due(30, "weeks without an even one", x.line(1, 3, 3, 2), 0);
        LuckLinks y = Check.withPlayers(3);
        Check.law(y, "points 1 10;points 2 9;");
        day(y, 0, 0, 5, 6, 7);
        day(y, 0, 1, 5, 5, 9);
        day(y, 1, 0, 7, 6, 5);
        // 0: 10, 1: 9 + 9, 2: 10: 1 is the first by all, by neither half.
        CHECK.due(30, "by neither", y.line(1, 0, 1, 2), 1);
        CHECK.due(30, "all of them", y.line(20, 0, 1, 0), 0);
        CHECK.due(30, "line, k 0", y.line(0, 0, 1, 0), -1);
        CHECK.due(30, "line, k 21", y.line(21, 0, 1, 0), -1);
        CHECK.due(30, "line from -1", y.line(1, -1, 1, 0), -1);
        CHECK.due(30, "line to 40", y.line(1, 0, 40, 0), -1);
        CHECK.due(30, "line from 1 to 0", y.line(1, 1, 0, 0), -1);
        CHECK.due(30, "line, what 3", y.line(1, 0, 1, 3), -1);
        CHECK.due(30, "line, what -1", y.line(1, 0, 1, -1), -1);
    }
}
