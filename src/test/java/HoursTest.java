/** WORTH, COST, PRESSED, OTHER and BESIDE: promises 32 to 36. */
public final class HoursTest {
    private static final Check CHECK = new Check();
    private static final long NO_WORTH = -1000000000L;
    private static final long NO_MEAN = -1000000000000L;

    private HoursTest() {
    }

    public static void main(String[] args) {
        worth();
        cost();
        hoursWrong();
        pressed();
        manyWeeks();
        other();
        otherOfMany();
        beside();
        CHECK.end("HoursTest");
    }

    private static void round(LuckLinks x, int player, int week, int day, int hour, int strokes) {
        CHECK.due(5, "round", x.round(player, week, 12 * day + hour, strokes * 100) >= 0, true);
    }

    private static void worth(LuckLinks x, int hour, int from, int to, long up, long low) {
        String call = "worth(" + hour + ", " + from + ", " + to + ", ";
        CHECK.due(32, call + "0)", x.worth(hour, from, to, 0), up);
        CHECK.due(32, call + "1)", x.worth(hour, from, to, 1), low);
    }

    private static LuckLinks withHours() {
        LuckLinks x = Check.withPlayers(4);
        round(x, 0, 0, 0, 0, 10);
        round(x, 1, 0, 0, 5, 14);
        round(x, 2, 0, 0, 5, 15);
        round(x, 3, 0, 0, 11, 20);
        round(x, 0, 0, 1, 4, 30);
        round(x, 1, 0, 1, 6, 20);
        round(x, 2, 3, 0, 0, 99);
        round(x, 3, 3, 0, 0, 99);
        round(x, 3, 3, 1, 11, 99);
        return x;
    }

    private static void worth() {
        LuckLinks x = withHours();
        // Day 0: ahead of 5: 10; from it on 14, 15, 20: 49 - 30; day 1: 20 - 30; by 3 and 1.
        worth(x, 5, 0, 0, 9, 4);
        worth(x, 5, 0, 2, 9, 4);
        // Ahead of 6: 10, 14, 15; from it on 20: 60 - 39; day 1: 20 - 30; by 3 and 1.
        worth(x, 6, 0, 0, 11, 4);
        // Ahead of 11: 21 by 3; on day 1 all are ahead.
        worth(x, 11, 0, 0, 7, 1);
        // From 1 on: 19 by 3; on day 1 all are.
        worth(x, 1, 0, 0, 19, 3);
        // No day of week 3 has both; the days of all weeks come together.
        worth(x, 5, 3, 3, NO_WORTH, NO_WORTH);
        worth(x, 5, 0, 39, 9, 4);
        worth(x, 5, 1, 39, NO_WORTH, NO_WORTH);
        round(x, 0, 3, 0, 11, 90);
        worth(x, 11, 3, 3, -9, 1);
        worth(x, 11, 0, 3, 3, 5);
        LuckLinks alike = Check.withPlayers(2);
        round(alike, 0, 0, 0, 0, 50);
        round(alike, 1, 0, 0, 1, 50);
        worth(alike, 1, 0, 0, 0, 1);
    }

    private static void cost(LuckLinks x, int player, int hour, int to, long up, long low) {
        String call = "cost(" + player + ", " + hour + ", 0, " + to + ", ";
        CHECK.due(33, call + "0)", x.cost(player, hour, 0, to, 0), up);
        CHECK.due(33, call + "1)", x.cost(player, hour, 0, to, 1), low);
    }

    private static void cost() {
        LuckLinks x = withHours();
        // From 5 on: 4 of 6 rounds; WORTH 9/4. 0: none of 2: -8/6; 1: 2 of 2: 4/6; 2: 1 of 1: 2/6.
        cost(x, 0, 5, 0, -3, 1);
        cost(x, 1, 5, 0, 3, 2);
        cost(x, 2, 5, 0, 3, 4);
        // With week 3: 5 of 9 rounds; 3: 2 of 3: 1/3; 0: none of 2: -10/9.
        cost(x, 3, 5, 39, 3, 4);
        cost(x, 0, 5, 39, -5, 2);
        // From 11 on: 1 of 6 rounds; WORTH 7.
        cost(x, 3, 11, 0, 35, 6);
        // From 1 on: 5 of 6 rounds, 1 of its 2; WORTH 19/3.
        cost(x, 0, 1, 0, -38, 9);
        CHECK.due(33, "no day with both", x.cost(0, 5, 3, 3, 0), NO_WORTH);
        CHECK.due(33, "no day with both", x.cost(3, 5, 3, 3, 1), NO_WORTH);
        LuckLinks more = Check.withPlayers(3);
        round(more, 0, 0, 0, 0, 50);
        round(more, 1, 0, 0, 1, 60);
        cost(more, 2, 1, 0, 0, 1);
        cost(more, 0, 1, 0, -5, 1);
        cost(more, 1, 1, 0, 5, 1);
    }

    private static void hoursWrong() {
        LuckLinks x = withHours();
        int[][] wrong = {{0, 0, 0, 0}, {12, 0, 0, 0}, {-1, 0, 0, 0}, {5, -1, 0, 0}, {5, 0, 40, 0}, {5, 1, 0, 0}, {5, 0, 0, 2},
            {5, 0, 0, -1}};
        for (int[] w : wrong) {
            CHECK.due(32, "worth", x.worth(w[0], w[1], w[2], w[3]), NO_WORTH);
            CHECK.due(33, "cost", x.cost(0, w[0], w[1], w[2], w[3]), NO_WORTH);
        }
        CHECK.due(33, "cost of no player", x.cost(4, 5, 0, 0, 0), NO_WORTH);
        CHECK.due(33, "cost of player -1", x.cost(-1, 5, 0, 0, 0), NO_WORTH);
    }

    /** Four days of two players, the second always in 50. */
    private static void week(LuckLinks x, int week, int... strokes) {
        for (int day = 0; day < strokes.length; day++) {
            round(x, 0, week, day, 0, strokes[day]);
            round(x, 1, week, day, 0, 50);
        }
    }

    private static void pressed(LuckLinks x, int player, long... want) {
        for (int what = 0; what < 3; what++) {
            CHECK.due(34, "pressed(" + player + ", " + what + ")", x.pressed(player, what), want[what]);
        }
    }

    private static void pressed() {
        LuckLinks x = Check.withPlayers(3);
        pressed(x, 0, 0, 0, 1);
        week(x, 0, 50, 50, 50);
        pressed(x, 0, 0, 0, 1);
        week(x, 1, 50, 50, 50, 50);
        // Three times is no less than all the others: no; so all rows.
        pressed(x, 0, 0, 1, 2);
        week(x, 2, 52, 52, 52, 50);
        pressed(x, 0, 1, 2, 3);
        pressed(x, 1, 0, 2, 4);
        week(x, 3, 50, 50, 51, 50);
        pressed(x, 0, 2, 3, 4);
        week(x, 4, 50, 50, 49, 50);
        pressed(x, 0, 2, 4, 11);
        pressed(x, 1, 1, 4, 15);
        week(x, 39, 60, 60, 60, 60);
        pressed(x, 0, 2, 5, 26);
        week(x, 38, 60, 60, 62, 60);
        pressed(x, 0, 3, 6, 20 + 15 + 6 + 1);
        CHECK.due(34, "pressed of one without", x.pressed(2, 2), 1);
        CHECK.due(34, "pressed of no player", x.pressed(3, 0), -1);
        CHECK.due(34, "pressed of player -1", x.pressed(-1, 0), -1);
        CHECK.due(34, "pressed, what 3", x.pressed(0, 3), -1);
        CHECK.due(34, "pressed, what -1", x.pressed(0, -1), -1);
    }

    private static void manyWeeks() {
        LuckLinks x = Check.withPlayers(2);
        x.player(0, 0, 0, 0);
        for (int week = 0; week < 40; week++) {
            week(x, week, 51, 51, 51, 50);
        }
        pressed(x, 0, 40, 40, 1);
        pressed(x, 1, 0, 40, 1L << 40);
        CHECK.due(35, "other(0)", x.other(0), 0);
        CHECK.due(35, "other(1)", x.other(1), 2);
        CHECK.due(35, "other(2)", x.other(2), 0);
    }

    private static void other(LuckLinks x, int... want) {
        for (int what = 0; what < 3; what++) {
            CHECK.due(35, "other(" + what + ")", x.other(what), want[what]);
        }
    }

    private static void other() {
        LuckLinks x = Check.withPlayers(4);
        other(x, -1, -1, -1);
        week(x, 0, 50, 50, 50);
        other(x, -1, -1, -1);
        week(x, 1, 50, 50, 50, 50);
        // Two with a part of 1: the least number; 200 hundredths are held to 100.
        other(x, 0, 2, 100);
        week(x, 2, 49, 49, 49, 50);
        // 0: 0 of 2; 1: 1 of 2: 3 of 4 rows.
        other(x, 1, 2, 100);
        week(x, 3, 49, 49, 49, 50);
        week(x, 4, 49, 49, 49, 50);
        // 1: 3 of 4: 5 of 16 rows: 62.5 hundredths.
        other(x, 1, 2, 62);
        week(x, 5, 49, 49, 49, 50);
        week(x, 6, 49, 49, 49, 50);
        // 5 of 6: 7 of 64 rows: 21.875 hundredths.
        other(x, 1, 2, 21);
        CHECK.due(35, "other, what 3", x.other(3), -1);
        CHECK.due(35, "other, what -1", x.other(-1), -1);
    }

    /** Unlike numbers of weeks: parts count, not rows. */
    private static void otherOfMany() {
        LuckLinks x = Check.withPlayers(3);
        for (int day = 0; day < 4; day++) {
            round(x, 0, 0, day, 0, day == 3 ? 40 : 50);
            round(x, 1, 0, day, 0, 50);
        }
        for (int week = 1; week < 4; week++) {
            for (int day = 0; day < 4; day++) {
                round(x, 1, week, day, 0, day == 3 && week < 3 ? 40 : 50);
                round(x, 2, week, day, 0, 50);
            }
        }
        // 0: 1 of 1: 1 of 2 rows. 1: no, yes, yes, no: 2 of 4: 11 of 16 rows. 2: 0 of 3.
        other(x, 0, 3, 100);
        for (int day = 0; day < 4; day++) {
            round(x, 1, 4, day, 0, day == 3 ? 40 : 50);
            round(x, 2, 4, day, 0, 50);
            round(x, 1, 5, day, 0, day == 3 ? 40 : 50);
            round(x, 2, 5, day, 0, 50);
            round(x, 1, 6, day, 0, day == 3 ? 40 : 50);
            round(x, 2, 6, day, 0, 50);
        }
        // 1: 5 of 7: 21 + 7 + 1 of 128 rows: fewer by parts than 1 of 2; times three: 67.96.
        other(x, 1, 3, 67);
    }

    private static void beside(LuckLinks x, int player, long up, long low) {
        CHECK.due(36, "beside(" + player + ", 0)", x.beside(player, 0), up);
        CHECK.due(36, "beside(" + player + ", 1)", x.beside(player, 1), low);
    }

    private static void beside() {
        LuckLinks x = Check.withPlayers(4);
        round(x, 0, 0, 0, 3, 10);
        beside(x, 0, NO_MEAN, NO_MEAN);
        round(x, 1, 0, 0, 3, 12);
        round(x, 2, 0, 0, 4, 20);
        // The mean is 14: OFF -4, -2, 6.
        beside(x, 0, -2, 1);
        beside(x, 1, -4, 1);
        beside(x, 2, NO_MEAN, NO_MEAN);
        beside(x, 3, NO_MEAN, NO_MEAN);
        round(x, 0, 0, 1, 4, 10);
        round(x, 1, 0, 1, 4, 11);
        round(x, 2, 0, 1, 4, 12);
        // OFF on day 1: -1, 0, 1.
        beside(x, 0, -1, 3);
        beside(x, 1, -4, 3);
        beside(x, 2, -1, 2);
        round(x, 0, 5, 0, 3, 10);
        round(x, 3, 6, 0, 3, 10);
        beside(x, 3, NO_MEAN, NO_MEAN);
        round(x, 3, 5, 0, 3, 11);
        beside(x, 3, -1, 2);
        beside(x, 0, -1, 8);
        CHECK.due(36, "beside no player", x.beside(4, 0), NO_MEAN);
        CHECK.due(36, "beside player -1", x.beside(-1, 0), NO_MEAN);
        CHECK.due(36, "beside, what 2", x.beside(0, 2), NO_MEAN);
        CHECK.due(36, "beside, what -1", x.beside(0, -1), NO_MEAN);
    }
}
