/** Each sentence on an edge of promises 32 to 36; the words in quotes are the document's. */
public final class EdgesOfHoursTest {
    private static final Check CHECK = new Check();
    private static final long NO_WORTH = -1000000000L;
    private static final long NO_MEAN = -1000000000000L;

    private EdgesOfHoursTest() {
    }

    public static void main(String[] args) {
        worthAsked();
        worthWithoutBoth();
        worthFromTheHourOn();
        worthInLowestTerms();
        worthInWeeks();
        worthOfTheMost();
        costAsked();
        costWithoutBoth();
        costOfNothing();
        costInWeeks();
        pressedAsked();
        pressedOfFourDays();
        pressedBelow();
        rowsOfNoWeeks();
        rowsOfAllWeeks();
        otherAsked();
        otherOfNobody();
        otherOfSeveral();
        otherByParts();
        otherHundredMost();
        otherCut();
        besideAsked();
        besideNobody();
        besideOthersOnly();
        besideInLowestTerms();
        CHECK.end("EdgesOfHoursTest");
    }

    private static void worth(LuckLinks x, int hour, long upper, long lower) {
        CHECK.due(32, "worth(" + hour + ", 0, 39, 0)", x.worth(hour, 0, 39, 0), upper);
        CHECK.due(32, "worth(" + hour + ", 0, 39, 1)", x.worth(hour, 0, 39, 1), lower);
    }

    private static LuckLinks withBoth(int... weeks) {
        LuckLinks x = Check.withPlayers(2);
        for (int week : weeks) {
            Check.hour(x, 0, week, 0, 0, 10);
            Check.hour(x, 1, week, 0, 11, 20);
        }
        return x;
    }

    /** "WORTH of an HOUR (1 to 11)". "-1,000,000,000: none such, no DAY with both." */
    private static void worthAsked() {
        LuckLinks x = withBoth(0, 39);
        CHECK.range(32, "worth of an hour", hour -> x.worth(hour, 0, 39, 0), 1, 11, NO_WORTH);
        CHECK.range(32, "worth from a week", from -> x.worth(1, from, 39, 0), 0, 39, NO_WORTH);
        CHECK.range(32, "worth to a week", to -> x.worth(1, 0, to, 0), 0, 39, NO_WORTH);
        CHECK.range(32, "worth, what", what -> x.worth(1, 0, 39, what), 0, 1, NO_WORTH);
        CHECK.due(32, "from a week to the one ahead", x.worth(1, 1, 0, 0), NO_WORTH);
        CHECK.due(32, "weeks without rounds", x.worth(1, 1, 38, 0), NO_WORTH);
    }

    private static void worthWithoutBoth() {
        LuckLinks x = Check.withPlayers(3);
        worth(x, 1, NO_WORTH, NO_WORTH);
        Check.hour(x, 0, 0, 0, 0, 10);
        worth(x, 1, NO_WORTH, NO_WORTH);
        Check.hour(x, 1, 0, 0, 0, 20);
        worth(x, 1, NO_WORTH, NO_WORTH);
        // Ahead of it on one day, from it on on another one, and in another week.
        Check.hour(x, 0, 0, 1, 5, 10);
        Check.hour(x, 2, 1, 0, 5, 10);
        worth(x, 1, NO_WORTH, NO_WORTH);
        Check.hour(x, 1, 0, 1, 4, 13);
        worth(x, 5, -3, 1);
        worth(x, 4, NO_WORTH, NO_WORTH);
        worth(x, 6, NO_WORTH, NO_WORTH);
    }

    /** "ahead of it", "from it on": the hour itself is from it on. */
    private static void worthFromTheHourOn() {
        LuckLinks x = Check.withPlayers(3);
        Check.hour(x, 0, 0, 0, 0, 10);
        Check.hour(x, 1, 0, 0, 1, 20);
        Check.hour(x, 2, 0, 0, 11, 60);
        worth(x, 1, 30, 1);
        worth(x, 2, 45, 1);
        worth(x, 11, 45, 1);
    }

    /** "in lowest terms (the lower one above 0)". */
    private static void worthInLowestTerms() {
        LuckLinks x = Check.withPlayers(4);
        Check.hour(x, 0, 0, 0, 0, 20);
        Check.hour(x, 1, 0, 0, 0, 20);
        Check.hour(x, 2, 0, 0, 1, 10);
        Check.hour(x, 3, 0, 0, 1, 11);
        // 2 times 21 less 2 times 40 by 4.
        worth(x, 1, -19, 2);
        LuckLinks alike = Check.withPlayers(2);
        Check.hour(alike, 0, 0, 0, 0, 20);
        Check.hour(alike, 1, 0, 0, 1, 20);
        worth(alike, 1, 0, 1);
        LuckLinks none = Check.withPlayers(2);
        Check.hour(none, 0, 0, 0, 0, 0);
        Check.hour(none, 1, 0, 0, 1, 0);
        worth(none, 1, 0, 1);
        // Two days that make up for one another.
        Check.hour(alike, 0, 0, 1, 0, 20);
        Check.hour(alike, 1, 0, 1, 1, 25);
        Check.hour(alike, 0, 0, 2, 1, 25);
        Check.hour(alike, 1, 0, 2, 0, 30);
        worth(alike, 1, 0, 1);
    }

    private static void worthInWeeks() {
        LuckLinks x = withBoth(0, 5, 39);
        Check.hour(x, 0, 5, 1, 0, 10);
        Check.hour(x, 1, 5, 1, 1, 15);
        CHECK.due(32, "week 5", x.worth(1, 5, 5, 0), 15);
        CHECK.due(32, "week 5", x.worth(1, 5, 5, 1), 2);
        CHECK.due(32, "up to week 5", x.worth(1, 0, 5, 0), 25);
        CHECK.due(32, "up to week 4", x.worth(1, 0, 4, 0), 10);
        CHECK.due(32, "from week 6 on", x.worth(1, 6, 39, 0), 10);
        CHECK.due(32, "all", x.worth(1, 0, 39, 0), 35);
        CHECK.due(32, "all", x.worth(1, 0, 39, 1), 4);
    }

    private static void worthOfTheMost() {
        LuckLinks x = Check.withPlayers(20);
        for (int player = 0; player < 20; player++) {
            for (int day = 0; day < 4; day++) {
                x.round(player, 39, 12 * day + (player < 10 ? 0 : 11), player < 10 ? 0 : 99999999);
            }
        }
        worth(x, 11, 396, 1);
        worth(x, 1, 396, 1);
        // All 40 are half of its 80: 4 of 4 less 4 times 40 by 80.
        CHECK.due(33, "cost of the last", x.cost(19, 11, 0, 39, 0), 792);
        CHECK.due(33, "cost of the first", x.cost(0, 11, 0, 39, 0), -792);
    }

    private static void cost(LuckLinks x, int player, int hour, long upper, long lower) {
        CHECK.due(33, "cost(" + player + ", " + hour + ", 0, 39, 0)", x.cost(player, hour, 0, 39, 0), upper);
        CHECK.due(33, "cost(" + player + ", " + hour + ", 0, 39, 1)", x.cost(player, hour, 0, 39, 1), lower);
    }

    /** "COST of a PLAYER, likewise." */
    private static void costAsked() {
        LuckLinks x = withBoth(0, 39);
        CHECK.range(33, "cost of a player", p -> x.cost(p, 1, 0, 39, 0), 0, 1, NO_WORTH);
        CHECK.range(33, "cost of an hour", hour -> x.cost(0, hour, 0, 39, 0), 1, 11, NO_WORTH);
        CHECK.range(33, "cost from a week", from -> x.cost(0, 1, from, 39, 0), 0, 39, NO_WORTH);
        CHECK.range(33, "cost to a week", to -> x.cost(0, 1, 0, to, 0), 0, 39, NO_WORTH);
        CHECK.range(33, "cost, what", what -> x.cost(0, 1, 0, 39, what), 0, 1, NO_WORTH);
        CHECK.due(33, "from a week to the one ahead", x.cost(0, 1, 1, 0, 0), NO_WORTH);
    }

    private static void costWithoutBoth() {
        LuckLinks x = Check.withPlayers(2);
        cost(x, 0, 1, NO_WORTH, NO_WORTH);
        Check.hour(x, 0, 0, 0, 0, 10);
        cost(x, 0, 1, NO_WORTH, NO_WORTH);
        Check.hour(x, 1, 1, 0, 5, 10);
        cost(x, 0, 1, NO_WORTH, NO_WORTH);
        cost(x, 1, 1, NO_WORTH, NO_WORTH);
        Check.hour(x, 1, 0, 0, 5, 14);
        // 4 times 0 less 1 times 2 by 3, and 2 less 2 times 2 by 3.
        cost(x, 0, 5, -8, 3);
        cost(x, 1, 5, 8, 3);
    }

    /** A player without rounds, an hour worth nothing: 0 in lowest terms. */
    private static void costOfNothing() {
        LuckLinks x = withBoth(0);
        x.player(0, 0, 0, 0);
        cost(x, 2, 1, 0, 1);
        cost(x, 0, 1, -5, 1);
        LuckLinks alike = Check.withPlayers(2);
        Check.hour(alike, 0, 0, 0, 0, 20);
        Check.hour(alike, 1, 0, 0, 1, 20);
        cost(alike, 1, 1, 0, 1);
        // As many of its own as of all are from it on.
        LuckLinks even = Check.withPlayers(2);
        for (int day = 0; day < 2; day++) {
            Check.hour(even, 0, 0, day, day == 0 ? 0 : 6, 10);
            Check.hour(even, 1, 0, day, day == 0 ? 6 : 0, 30 * day);
        }
        cost(even, 0, 6, 0, 1);
    }

    /** Rounds of those weeks alone count, those of days without both, too. */
    private static void costInWeeks() {
        LuckLinks x = withBoth(0, 5);
        Check.hour(x, 0, 7, 0, 11, 50);
        CHECK.due(33, "weeks 0 to 5: 0 less 2 times 2 by 4, times 10", x.cost(0, 1, 0, 5, 0), -10);
        CHECK.due(33, "week 5", x.cost(0, 1, 5, 5, 0), -5);
        // 1 less 3 times 3 by 5, times 10.
        CHECK.due(33, "weeks 0 to 7", x.cost(0, 1, 0, 7, 0), -8);
        CHECK.due(33, "week 7 alone", x.cost(0, 1, 7, 7, 0), NO_WORTH);
    }

    /** Four days of two players, the second always in 50. */
    private static void week(LuckLinks x, int week, int... strokes) {
        for (int day = 0; day < strokes.length; day++) {
            Check.day(x, week, day, strokes[day], 50);
        }
    }

    private static void pressed(LuckLinks x, int player, long... want) {
        for (int what = 0; what < 3; what++) {
            CHECK.due(34, "pressed(" + player + ", " + what + ")", x.pressed(player, what), want[what]);
        }
    }

    private static void pressedAsked() {
        LuckLinks x = Check.withPlayers(3);
        CHECK.range(34, "pressed of a player", p -> x.pressed(p, 0), 0, 2, -1);
        CHECK.range(34, "pressed, what", what -> x.pressed(0, what), 0, 2, -1);
    }

    /** "of WEEKS with all four DAYS". */
    private static void pressedOfFourDays() {
        LuckLinks x = Check.withPlayers(2);
        week(x, 0, 60);
        pressed(x, 0, 0, 0, 1);
        week(x, 1, 60, 60);
        pressed(x, 0, 0, 0, 1);
        week(x, 2, 60, 60, 60);
        pressed(x, 0, 0, 0, 1);
        week(x, 39, 60, 60, 60, 50);
        pressed(x, 0, 1, 1, 1);
        pressed(x, 1, 0, 1, 2);
        // Its own four days, not all others': 1 alone goes on in week 2.
        Check.day(x, 2, 3, -1, 50);
        pressed(x, 0, 1, 1, 1);
        CHECK.due(34, "of 1: one week more", x.pressed(1, 1), 2);
    }

    /** "three times OFF by NONE on DAY 3 is below OFF on the others together". */
    private static void pressedBelow() {
        LuckLinks x = Check.withPlayers(2);
        week(x, 0, 51, 51, 51, 51);
        pressed(x, 0, 0, 1, 2);
        week(x, 1, 51, 51, 52, 51);
        pressed(x, 0, 1, 2, 3);
        week(x, 2, 51, 51, 50, 51);
        pressed(x, 0, 1, 3, 7);
        week(x, 3, 49, 49, 49, 49);
        pressed(x, 0, 1, 4, 15);
        week(x, 4, 49, 49, 50, 49);
        pressed(x, 0, 2, 5, 26);
        week(x, 5, 50, 50, 50, 49);
        pressed(x, 0, 3, 6, 42);
        // One alone is always at the mean: no.
        LuckLinks alone = Check.withPlayers(1);
        for (int day = 0; day < 4; day++) {
            Check.day(alone, 0, day, 90 - 20 * day);
        }
        pressed(alone, 0, 0, 1, 2);
    }

    private static void rowsOfNoWeeks() {
        LuckLinks x = Check.withPlayers(1);
        pressed(x, 0, 0, 0, 1);
    }

    /** "of all rows of so many yes and no how many have at least as many yes": up to 2 to the 40th. */
    private static void rowsOfAllWeeks() {
        LuckLinks x = Check.withPlayers(1);
        for (int week = 0; week < 40; week++) {
            x.run(week, 1);
        }
        pressed(x, 0, 0, 40, 1L << 40);
        CHECK.due(35, "all rows: 100 hundredths", x.other(2), 100);
        LuckLinks y = Check.withPlayers(2);
        for (int week = 0; week < 40; week++) {
            week(y, week, 50, 50, 50, week < 20 ? 49 : 51);
        }
        long rows = (1L << 39) + 137846528820L / 2;
        pressed(y, 0, 20, 40, rows);
        pressed(y, 1, 20, 40, rows);
        LuckLinks z = Check.withPlayers(2);
        for (int week = 0; week < 40; week++) {
            week(z, week, 50, 50, 50, week == 39 ? 51 : 49);
        }
        pressed(z, 0, 39, 40, 41);
        pressed(z, 1, 1, 40, (1L << 40) - 1);
    }

    private static void other(LuckLinks x, int... want) {
        for (int what = 0; what < 3; what++) {
            CHECK.due(35, "other(" + what + ")", x.other(what), want[what]);
        }
    }

    private static void otherAsked() {
        LuckLinks x = Check.withPlayers(2);
        week(x, 0, 50, 50, 50, 50);
        CHECK.range(35, "other, what", what -> x.other(what), 0, 2, -1);
    }

    /** "of those with such WEEKS". "NONE: none, none such." */
    private static void otherOfNobody() {
        LuckLinks x = new LuckLinks();
        other(x, -1, -1, -1);
        x = Check.withPlayers(3);
        other(x, -1, -1, -1);
        week(x, 0, 50, 50, 50);
        other(x, -1, -1, -1);
        Check.day(x, 0, 3, -1, 50);
        other(x, 1, 1, 100);
    }

    /** "(of several the least number)". */
    private static void otherOfSeveral() {
        LuckLinks x = Check.withPlayers(3);
        for (int day = 0; day < 4; day++) {
            Check.day(x, 0, day, -1, 50, 50);
        }
        other(x, 1, 2, 100);
        for (int day = 0; day < 4; day++) {
            Check.day(x, 1, day, 50, -1, 50);
        }
        other(x, 0, 3, 100);
        // 1 yes of 1 week is 1 of 2 rows, and 2 of 3 are 4 of 8: alike.
        for (int one = 0; one < 2; one++) {
            LuckLinks y = Check.withPlayers(3);
            for (int day = 0; day < 4; day++) {
                int last = day < 3 ? 50 : 40;
                Check.day(y, 0, day, one == 0 ? last : 50, one == 1 ? last : 50, 50);
                for (int week = 1; week < 3; week++) {
                    Check.day(y, week, day, one == 1 ? last : -1, one == 0 ? last : -1, 50);
                }
            }
            CHECK.due(34, "1 of 1", y.pressed(one, 2), 1);
            CHECK.due(34, "2 of 3", y.pressed(1 - one, 2), 4);
            other(y, 0, 3, 100);
        }
    }

    /** "by whose rows' part of all rows is least": not rows, and not yes. */
    private static void otherByParts() {
        LuckLinks x = Check.withPlayers(3);
        // 0: 1 of 1: 1 of 2 rows. 1: that week and five more, in these a yes each.
        for (int day = 0; day < 4; day++) {
            Check.day(x, 0, day, day < 3 ? 50 : 40, 50, 50);
        }
        for (int week = 1; week < 6; week++) {
            for (int day = 0; day < 4; day++) {
                Check.day(x, week, day, -1, day < 3 ? 50 : 40, 50);
            }
        }
        // 1: 5 of 6: 7 of 64 rows, less than 1 of 2; 0 has fewer rows. Times three: 32.8 hundredths.
        CHECK.due(34, "0 has one row", x.pressed(0, 2), 1);
        CHECK.due(34, "1 has seven", x.pressed(1, 2), 7);
        other(x, 1, 3, 32);
    }

    /** "(cut, 100 at most)". */
    private static void otherHundredMost() {
        LuckLinks x = Check.withPlayers(20);
        x.run(0, 0xfffff);
        other(x, 0, 20, 100);
        LuckLinks y = Check.withPlayers(2);
        week(y, 0, 50, 50, 50, 49);
        // 1 of 2 rows times two: just 100.
        other(y, 0, 2, 100);
        week(y, 1, 50, 50, 50, 49);
        other(y, 0, 2, 50);
    }

    private static void otherCut() {
        LuckLinks x = Check.withPlayers(2);
        int[] want = {100, 50, 25, 12, 6, 3, 1, 0, 0};
        for (int week = 0; week < want.length; week++) {
            week(x, week, 50, 50, 50, 49);
            CHECK.due(35, "other(2) of " + (week + 1) + " weeks", x.other(2), want[week]);
        }
        CHECK.due(35, "it is there, though of no hundredth", x.other(0), 0);
    }

    private static void beside(LuckLinks x, int player, long upper, long lower) {
        CHECK.due(36, "beside(" + player + ", 0)", x.beside(player, 0), upper);
        CHECK.due(36, "beside(" + player + ", 1)", x.beside(player, 1), lower);
    }

    private static void besideAsked() {
        LuckLinks x = Check.withPlayers(3);
        for (int player = 0; player < 3; player++) {
            Check.hour(x, player, 0, 0, 5, 10 + player);
        }
        CHECK.range(36, "beside a player", p -> x.beside(p, 0), 0, 2, NO_MEAN);
        CHECK.range(36, "beside, what", what -> x.beside(0, what), 0, 1, NO_MEAN);
    }

    /** "-1,000,000,000,000: nobody". */
    private static void besideNobody() {
        LuckLinks x = Check.withPlayers(3);
        beside(x, 0, NO_MEAN, NO_MEAN);
        Check.hour(x, 0, 0, 0, 5, 10);
        beside(x, 0, NO_MEAN, NO_MEAN);
        Check.hour(x, 1, 0, 0, 4, 10);
        Check.hour(x, 2, 0, 0, 6, 10);
        beside(x, 0, NO_MEAN, NO_MEAN);
        Check.hour(x, 1, 0, 1, 5, 10);
        beside(x, 0, NO_MEAN, NO_MEAN);
        Check.hour(x, 1, 1, 0, 5, 10);
        beside(x, 0, NO_MEAN, NO_MEAN);
        Check.hour(x, 2, 1, 0, 5, 12);
        beside(x, 0, NO_MEAN, NO_MEAN);
        beside(x, 1, 1, 1);
        beside(x, 2, -1, 1);
    }

    /** "of all others' ROUNDS": its own do not count, but in the mean that OFF is from. */
    private static void besideOthersOnly() {
        LuckLinks x = Check.withPlayers(3);
        Check.hour(x, 0, 39, 0, 11, 99);
        Check.hour(x, 1, 39, 0, 11, 0);
        beside(x, 0, -99, 2);
        beside(x, 1, 99, 2);
        Check.hour(x, 2, 39, 0, 0, 0);
        beside(x, 0, -33, 1);
        beside(x, 1, 66, 1);
        beside(x, 2, NO_MEAN, NO_MEAN);
        Check.hour(x, 0, 39, 1, 0, 10);
        Check.hour(x, 2, 39, 1, 0, 14);
        beside(x, 0, -31, 2);
        beside(x, 2, -2, 1);
    }

    private static void besideInLowestTerms() {
        LuckLinks x = Check.withPlayers(20);
        for (int player = 0; player < 20; player++) {
            x.round(player, 0, 0, player == 0 ? 99999999 : 0);
        }
        // All others are 396 by 20 below the mean.
        beside(x, 0, -99, 5);
        // One is 376.2 above, eighteen 19.8 below.
        beside(x, 19, 99, 95);
        LuckLinks alike = Check.withPlayers(2);
        Check.hour(alike, 0, 0, 0, 0, 7);
        Check.hour(alike, 1, 0, 0, 0, 7);
        beside(alike, 0, 0, 1);
    }
}
