/** Each sentence on an edge of promises 1 to 7, 13, 14 and 37 to 39; the words in quotes are the document's. */
public final class EdgesOfTellingTest {
    private static final Check CHECK = new Check();
    private static final long NO_MEAN = -1000000000000L;

    private EdgesOfTellingTest() {
    }

    public static void main(String[] args) {
        nothingAtFirst();
        nothingToAskAtFirst();
        nobodyToAskAtFirst();
        firstZIsOne();
        giftsFromLeastToMost();
        playersUpToTwenty();
        fullAndNotAsTold();
        courseStrokesFromLeastToMost();
        coursesUpToSix();
        weeksFromLeastToMost();
        weeksOnCoursesThereAre();
        weekToldOnce();
        roundsOfPlayersThereAre();
        roundsInWeeksWithCourses();
        roundTimesFromLeastToMost();
        roundStrokesFromLeastToMost();
        oneRoundOfPlayerWeekAndDay();
        roundsOnlyBehindTheDayAhead();
        roundsUpToTheLast();
        bets();
        betsFromLeastToMost();
        seedsFromLeastToMost();
        giftsAsked();
        scoresAsked();
        imagesUpToThree();
        restoresOfImagesThereAre();
        imagesOfNothingAndOfAll();
        imagesOfOtherThings();
        countsAsked();
        allCallsUpToTheLast();
        CHECK.end("EdgesOfTellingTest");
    }

    /** "No PLAYERS, COURSES, ROUNDS." And nothing else that was told. */
    private static void nothingAtFirst() {
        LuckLinks x = new LuckLinks();
        for (int what = 0; what <= 7; what++) {
            CHECK.due(1, "count(" + what + ")", x.count(what), 0);
        }
        for (int week = 0; week < 40; week++) {
            CHECK.due(1, "the course of week " + week, x.count(10 + week), -1);
        }
        CHECK.due(1, "fault()", x.fault(), -1);
        for (int what = 0; what <= 3; what++) {
            CHECK.due(1, "drift", x.rule(what), 0);
            CHECK.due(1, "luck", x.rule(10 + what), 0);
        }
        for (int day = 0; day <= 2; day++) {
            CHECK.due(1, "no cut", x.rule(20 + day), 0);
        }
        for (int place = 1; place <= 20; place++) {
            CHECK.due(1, "prize", x.rule(30 + place), 0);
            CHECK.due(1, "points", x.rule(60 + place), 0);
        }
        for (int age = 0; age <= 39; age++) {
            CHECK.due(1, "weight", x.rule(100 + age), 1);
        }
        CHECK.due(1, "\"at first one without RULES\"", x.rule(200), 0);
    }

    /** What needs no player is answered of a new object, too. */
    private static void nothingToAskAtFirst() {
        LuckLinks x = new LuckLinks();
        for (int what = 0; what <= 2; what++) {
            CHECK.due(19, "back", x.back(0, 20, 0, 39, what), 0);
            CHECK.due(26, "lasts", x.lasts(-1, 0, 20, 39, what), 0);
            CHECK.due(30, "line", x.line(20, 0, 39, what), 0);
            CHECK.due(35, "other", x.other(what), -1);
        }
        for (int what = 0; what <= 4; what++) {
            CHECK.due(31, "held", x.held(0, what), 0);
        }
        for (int what = 0; what <= 1; what++) {
            CHECK.due(18, "luck", x.luck(-1, 0, 39, what), -1);
            CHECK.due(28, "right", x.right(0, 2, what), -1);
            CHECK.due(32, "worth", x.worth(1, 0, 39, what), -1000000000L);
        }
        CHECK.due(17, "cut", x.cut(0, 0, 0), -1);
        CHECK.due(22, "best", x.best(40), -1);
        CHECK.due(25, "need without luck", x.need(1, 100), 1);
        CHECK.due(27, "most", x.most(0, 20, 39), 0);
        CHECK.due(29, "listed", x.listed(0, 39, 0), -1);
    }

    private static void nobodyToAskAtFirst() {
        LuckLinks x = new LuckLinks();
        CHECK.due(13, "gift", x.gift(0, 0), -100);
        CHECK.due(14, "score", x.score(0, 0, 0, 0), -1);
        CHECK.due(15, "place", x.place(0, 0), -1);
        CHECK.due(16, "won", x.won(0, 0, 39, 0), -1);
        CHECK.due(20, "skill", x.skill(0, -1, 40, 0), NO_MEAN);
        CHECK.due(21, "span", x.span(0, -1, 40, 0), -1000000);
        CHECK.due(23, "years", x.years(0), -1);
        CHECK.due(24, "odds", x.odds(0, 1, 0), -1);
        CHECK.due(33, "cost", x.cost(0, 1, 0, 39, 0), -1000000000L);
        CHECK.due(34, "pressed", x.pressed(0, 1), -1);
        CHECK.due(36, "beside", x.beside(0, 0), NO_MEAN);
        CHECK.due(2, "player", x.player(0, 0, 0, 0), 0);
        CHECK.due(13, "gift", x.gift(0, 0), 0);
        CHECK.due(16, "won", x.won(0, 0, 39, 0), 0);
        CHECK.due(23, "years", x.years(0), 0);
        CHECK.due(34, "pressed", x.pressed(0, 1), 0);
        for (int reason = 0; reason < 3; reason++) {
            CHECK.due(39, "asking is not refused", x.count(5 + reason), 0);
        }
    }

    /** "z (1 at first)". */
    private static void firstZIsOne() {
        LuckLinks fresh = drawn(-1);
        LuckLinks seeded = drawn(1);
        LuckLinks other = drawn(2);
        boolean isOther = false;
        for (int day = 0; day < 4; day++) {
            CHECK.due(12, "drawn as by seed 1", fresh.score(0, 0, day, 0), seeded.score(0, 0, day, 0));
            isOther |= fresh.score(0, 0, day, 0) != other.score(0, 0, day, 0);
        }
        CHECK.due(12, "drawn otherwise than by seed 2", isOther, true);
    }

    private static LuckLinks drawn(int seed) {
        LuckLinks x = Check.withPlayers(1);
        Check.law(x, "luck tee 9;press tee more 20;");
        if (seed >= 0) {
            x.seed(seed);
        }
        x.run(0, 1);
        return x;
    }

    private static int playerWith(LuckLinks x, int part, int gift) {
        return x.player(part == 0 ? gift : 0, part == 1 ? gift : 0, part == 2 ? gift : 0, part == 3 ? gift : 0);
    }

    private static int courseWith(LuckLinks x, int part, int strokes) {
        return x.course(part == 0 ? strokes : 0, part == 1 ? strokes : 0, part == 2 ? strokes : 0, part == 3 ? strokes : 0);
    }

    /** "a GIFT by PARTS (-20 to 20 strokes)", each part by itself. */
    private static void giftsFromLeastToMost() {
        for (int p = 0; p < 4; p++) {
            int part = p;
            LuckLinks x = new LuckLinks();
            CHECK.range(2, "player with a gift of part " + part, gift -> playerWith(x, part, gift), -20, 20, -1);
            CHECK.due(2, "the least gift", x.gift(0, part), -20);
            CHECK.due(2, "the greatest gift", x.gift(1, part), 20);
            CHECK.due(2, "only those two are players", x.count(0), 2);
            CHECK.due(2, "not as told", x.count(5), 4);
            CHECK.due(2, "no room was wanting", x.count(6), 0);
        }
    }

    /** "PLAYERS, up to 20". "NONE, doing nothing but REFUSED: not as told, 20 are there." */
    private static void playersUpToTwenty() {
        LuckLinks x = new LuckLinks();
        for (int i = 0; i < 20; i++) {
            CHECK.due(2, "player " + i, x.player(i, -i, 1, 2), i);
        }
        CHECK.due(2, "nothing was refused", x.count(6), 0);
        CHECK.due(2, "the 21st", x.player(0, 0, 0, 0), -1);
        CHECK.due(2, "20 are there", x.count(0), 20);
        CHECK.due(2, "refused for want of room", x.count(6), 1);
        CHECK.due(2, "not for what was told", x.count(5), 0);
        CHECK.due(2, "the last one's gift stays", x.gift(19, 0), 19);
        CHECK.due(2, "the 21st has none", x.gift(20, 0), -100);
    }

    /** "0 not as told, 1 no more room (if they are as told)". */
    private static void fullAndNotAsTold() {
        LuckLinks x = Check.withPlayers(20);
        for (int i = 0; i < 5; i++) {
            x.course(0, 0, 0, 0);
        }
        CHECK.due(39, "the 21st player, not as told", x.player(21, 0, 0, 0), -1);
        CHECK.due(39, "reason 0", x.count(5), 1);
        CHECK.due(39, "the 7th course, not as told", x.course(0, 0, 0, 61), -1);
        CHECK.due(39, "reason 0", x.count(5), 2);
        CHECK.due(39, "not reason 1", x.count(6), 0);
        CHECK.due(39, "the 7th course, as told", x.course(0, 0, 0, 60), -1);
        CHECK.due(39, "reason 1", x.count(6), 1);
        CHECK.due(39, "no FAULT", x.count(7), 0);
    }

    /** "COURSES, up to 6: strokes by PARTS (0 to 60)", each part by itself. */
    private static void courseStrokesFromLeastToMost() {
        for (int p = 0; p < 4; p++) {
            int part = p;
            LuckLinks x = new LuckLinks();
            CHECK.range(3, "course with strokes of part " + part, n -> courseWith(x, part, n), 0, 60, -1);
            CHECK.due(3, "only those two are courses", x.count(1), 2);
            CHECK.due(3, "not as told", x.count(5), 4);
            CHECK.due(3, "no room was wanting", x.count(6), 0);
            x.player(0, 0, 0, 0);
            x.week(0, 0);
            x.week(1, 1);
            x.run(0, 1);
            x.run(1, 1);
            CHECK.due(3, "the least strokes", x.score(0, 0, 0, part), 0);
            CHECK.due(3, "the most strokes", x.score(0, 1, 0, part), 60);
        }
    }

    /** "A COURSE: its number. NONE likewise (6)." */
    private static void coursesUpToSix() {
        LuckLinks x = new LuckLinks();
        for (int i = 0; i < 6; i++) {
            CHECK.due(3, "course " + i, x.course(i, 0, 0, 0), i);
        }
        CHECK.due(3, "nothing was refused", x.count(6), 0);
        CHECK.due(3, "the 7th", x.course(9, 0, 0, 0), -1);
        CHECK.due(3, "6 are there", x.count(1), 6);
        CHECK.due(3, "refused for want of room", x.count(6), 1);
        CHECK.due(3, "not for what was told", x.count(5), 0);
        CHECK.due(3, "no week on the 7th", x.week(0, 6), false);
        CHECK.due(3, "one on the 6th", x.week(0, 5), true);
    }

    /** "WEEKS 0 to 39, each on a COURSE". */
    private static void weeksFromLeastToMost() {
        LuckLinks x = new LuckLinks();
        x.course(0, 0, 0, 0);
        CHECK.range(4, "week", week -> x.week(week, 0) ? 1 : 0, 0, 39, 0);
        CHECK.due(4, "week 0", x.count(10), 0);
        CHECK.due(4, "week 39", x.count(49), 0);
        CHECK.due(4, "week 1 isn't told", x.count(11), -1);
        CHECK.due(4, "not as told", x.count(5), 4);
    }

    private static void weeksOnCoursesThereAre() {
        LuckLinks x = new LuckLinks();
        CHECK.due(4, "no course at all", x.week(0, 0), false);
        x.course(0, 0, 0, 0);
        x.course(0, 0, 0, 0);
        int[] wrong = {-1, 2, Integer.MIN_VALUE, Integer.MAX_VALUE};
        for (int course : wrong) {
            CHECK.due(4, "on course " + course, x.week(0, course), false);
            CHECK.due(4, "week 0 stays untold", x.count(10), -1);
        }
        CHECK.due(4, "on the last course", x.week(0, 1), true);
        CHECK.due(4, "on the first one", x.week(1, 0), true);
        CHECK.due(4, "week 0", x.count(10), 1);
        CHECK.due(4, "week 1", x.count(11), 0);
        CHECK.due(4, "not as told", x.count(5), 5);
    }

    /** "(told once)", "false likewise (it is told)". */
    private static void weekToldOnce() {
        LuckLinks x = new LuckLinks();
        x.course(0, 0, 0, 0);
        x.course(0, 0, 0, 0);
        CHECK.due(4, "week 7", x.week(7, 0), true);
        CHECK.due(4, "once more on the same", x.week(7, 0), false);
        CHECK.due(4, "once more on another one", x.week(7, 1), false);
        CHECK.due(4, "it stays on the first", x.count(17), 0);
        CHECK.due(4, "reason 0", x.count(5), 2);
        CHECK.due(4, "not reason 1", x.count(6), 0);
        CHECK.due(4, "another week on it", x.week(8, 0), true);
    }

    private static void roundsOfPlayersThereAre() {
        LuckLinks x = Check.withPlayers(3);
        CHECK.range(5, "round of a player", p -> x.round(p, 0, 0, 5), 0, 2, -1);
        CHECK.due(5, "two rounds", x.count(2), 2);
        CHECK.due(5, "not as told", x.count(5), 4);
        CHECK.due(5, "a player more", x.player(0, 0, 0, 0), 3);
        CHECK.due(5, "its round", x.round(3, 0, 0, 5), 2);
    }

    /** "the WEEK has no COURSE". */
    private static void roundsInWeeksWithCourses() {
        LuckLinks x = Check.withPlayers(1);
        CHECK.range(5, "round in a week", week -> x.round(0, week, 0, 5), 0, 39, -1);
        CHECK.due(5, "not as told", x.count(5), 4);
        LuckLinks y = new LuckLinks();
        y.player(0, 0, 0, 0);
        y.course(0, 0, 0, 0);
        y.week(1, 0);
        CHECK.due(5, "in the week ahead", y.round(0, 0, 0, 5), -1);
        CHECK.due(5, "in the week behind", y.round(0, 2, 0, 5), -1);
        CHECK.due(5, "in that week", y.round(0, 1, 0, 5), 0);
        CHECK.due(5, "reason 0", y.count(5), 2);
        CHECK.due(5, "not reason 1", y.count(6), 0);
    }

    /** "DAYS 0 to 3, HOURS 0 to 11", "time: 12 times the DAY and the HOUR". */
    private static void roundTimesFromLeastToMost() {
        LuckLinks x = Check.withPlayers(2);
        CHECK.due(5, "time -1", x.round(0, 0, -1, 5), -1);
        CHECK.due(5, "the least time", x.round(0, 0, Integer.MIN_VALUE, 5), -1);
        CHECK.due(5, "time 12 on the first day", x.round(0, 0, 12, 5), -1);
        for (int day = 0; day < 4; day++) {
            CHECK.due(5, "hour 0 of day " + day, x.round(0, 0, 12 * day, 5), 2 * day);
            CHECK.due(5, "hour 11 of day " + day, x.round(1, 0, 12 * day + 11, 5), 2 * day + 1);
            CHECK.due(5, "hour 0", x.score(0, 0, day, 4), 0);
            CHECK.due(5, "hour 11", x.score(1, 0, day, 4), 11);
        }
        CHECK.due(5, "time 48 behind all days", x.round(0, 0, 48, 5), -1);
        CHECK.due(5, "the greatest time", x.round(0, 0, Integer.MAX_VALUE, 5), -1);
        CHECK.due(5, "not as told", x.count(5), 5);
        CHECK.due(5, "eight rounds", x.count(2), 8);
    }

    /** "strokes by PARTS (0 to 99 each)". */
    private static void roundStrokesFromLeastToMost() {
        int[] most = {99, 9900, 990000, 99000000};
        LuckLinks x = Check.withPlayers(4);
        for (int part = 0; part < 4; part++) {
            CHECK.due(5, "99 of part " + part, x.round(part, 0, 0, most[part]), part);
            for (int other = 0; other < 4; other++) {
                CHECK.due(5, "strokes of part " + other, x.score(part, 0, 0, other), other == part ? 99 : 0);
            }
            CHECK.due(5, "all parts together", x.score(part, 0, 0, -1), 99);
        }
        CHECK.due(5, "-1 strokes", x.round(0, 1, 0, -1), -1);
        CHECK.due(5, "100 of the last part", x.round(0, 1, 0, 100000000), -1);
        CHECK.due(5, "the least number", x.round(0, 1, 0, Integer.MIN_VALUE), -1);
        CHECK.due(5, "the greatest number", x.round(0, 1, 0, Integer.MAX_VALUE), -1);
        CHECK.due(5, "not as told", x.count(5), 4);
        CHECK.due(5, "no strokes at all", x.round(0, 1, 0, 0), 4);
        CHECK.due(5, "all there can be", x.round(1, 1, 0, 99999999), 5);
        CHECK.due(5, "none", x.score(0, 1, 0, -1), 0);
        CHECK.due(5, "all", x.score(1, 1, 0, -1), 396);
    }

    /** "one for each PLAYER, WEEK and DAY"; "there is one". */
    private static void oneRoundOfPlayerWeekAndDay() {
        LuckLinks x = Check.withPlayers(2);
        CHECK.due(5, "a round", x.round(0, 5, 3, 7), 0);
        CHECK.due(5, "the same once more", x.round(0, 5, 3, 7), -1);
        CHECK.due(5, "at another hour of the day", x.round(0, 5, 4, 8), -1);
        CHECK.due(5, "it stays", x.score(0, 5, 0, -1), 7);
        CHECK.due(5, "its hour stays", x.score(0, 5, 0, 4), 3);
        CHECK.due(5, "reason 0", x.count(5), 2);
        CHECK.due(5, "of another player", x.round(1, 5, 3, 9), 1);
        CHECK.due(5, "in another week", x.round(0, 6, 3, 9), 2);
        CHECK.due(5, "on the next day", x.round(0, 5, 15, 9), 3);
        CHECK.due(5, "on that day once more", x.round(0, 5, 16, 9), -1);
        CHECK.due(5, "in a drawn week", x.run(7, 1), 4);
        CHECK.due(5, "there is one drawn", x.round(0, 7, 36, 9), -1);
        CHECK.due(5, "one who wasn't drawn", x.round(1, 7, 0, 9), 8);
        CHECK.due(5, "reason 0", x.count(5), 4);
    }

    /** "on a DAY but 0 only of one that has one on the DAY ahead"; "none on the DAY ahead". */
    private static void roundsOnlyBehindTheDayAhead() {
        LuckLinks x = Check.withPlayers(2);
        for (int day = 1; day < 4; day++) {
            CHECK.due(5, "none at all, day " + day, x.round(0, 0, 12 * day, 5), -1);
        }
        x.round(1, 0, 0, 5);
        CHECK.due(5, "another player's on the day ahead", x.round(0, 0, 12, 5), -1);
        x.round(0, 1, 0, 5);
        CHECK.due(5, "its own in another week", x.round(0, 0, 12, 5), -1);
        CHECK.due(5, "day 0", x.round(0, 0, 0, 5), 2);
        CHECK.due(5, "day 2 behind day 0", x.round(0, 0, 24, 5), -1);
        CHECK.due(5, "day 3 behind day 0", x.round(0, 0, 36, 5), -1);
        CHECK.due(5, "day 1", x.round(0, 0, 12, 5), 3);
        CHECK.due(5, "day 3 behind day 1", x.round(0, 0, 36, 5), -1);
        CHECK.due(5, "day 2", x.round(0, 0, 24, 5), 4);
        CHECK.due(5, "day 3", x.round(0, 0, 36, 5), 5);
        CHECK.due(5, "reason 0", x.count(5), 8);
        CHECK.due(5, "not reason 1", x.count(6), 0);
    }

    /** "A ROUND, up to 1,200"; "NONE likewise (..; 1,200)". */
    private static void roundsUpToTheLast() {
        LuckLinks x = Check.withPlayers(20);
        for (int week = 0; week < 14; week++) {
            x.run(week, 0xfffff);
        }
        x.run(14, 0x7ffff);
        CHECK.due(5, "so far", x.count(2), 1196);
        for (int day = 0; day < 4; day++) {
            CHECK.due(5, "round", x.round(0, 20, 12 * day, 1), 1196 + day);
        }
        CHECK.due(5, "the 1,200th was no refusal", x.count(6), 0);
        CHECK.due(5, "the 1,201st", x.round(1, 20, 0, 1), -1);
        CHECK.due(5, "reason 1", x.count(6), 1);
        CHECK.due(5, "1,200 are there", x.count(2), 1200);
        CHECK.due(5, "it isn't one of them", x.score(1, 20, 0, -1), -1);
        CHECK.due(5, "the 1,201st, not as told", x.round(1, 20, 12, 1), -1);
        CHECK.due(5, "reason 0", x.count(5), 1);
        CHECK.due(5, "reason 1 no more", x.count(6), 1);
    }

    private static void bets() {
        LuckLinks x = Check.withPlayers(3);
        CHECK.range(6, "bet on a player", p -> x.bet(p, 0, 1) ? 1 : 0, 0, 2, 0);
        CHECK.range(6, "bet in a week", week -> x.bet(0, week, 1) ? 1 : 0, 0, 39, 0);
        CHECK.due(6, "not as told", x.count(5), 8);
        CHECK.due(6, "no room was wanting", x.count(6), 0);
    }

    /** "in hundredths (-9,999 to 9,999)"; what is refused leaves the one there was. */
    private static void betsFromLeastToMost() {
        LuckLinks x = Check.withPlayers(1);
        x.round(0, 0, 0, 5);
        CHECK.due(31, "a bet untold is 0", x.held(0, 1), 0);
        CHECK.due(6, "the greatest", x.bet(0, 0, 9999), true);
        CHECK.due(6, "held", x.held(0, 1), 9999);
        CHECK.due(6, "one more", x.bet(0, 0, 10000), false);
        CHECK.due(6, "the greatest number", x.bet(0, 0, Integer.MAX_VALUE), false);
        CHECK.due(6, "held as before", x.held(0, 1), 9999);
        CHECK.due(6, "the least", x.bet(0, 0, -9999), true);
        CHECK.due(6, "held", x.held(0, 1), 9999);
        CHECK.due(6, "one less", x.bet(0, 0, -10000), false);
        CHECK.due(6, "the least number", x.bet(0, 0, Integer.MIN_VALUE), false);
        CHECK.due(6, "nothing", x.bet(0, 0, 0), true);
        CHECK.due(6, "held", x.held(0, 1), 0);
        CHECK.due(6, "not as told", x.count(5), 4);
    }

    /** "z is that (0 to 999,999,999): true; false likewise"; what is refused leaves z. */
    private static void seedsFromLeastToMost() {
        LuckLinks x = new LuckLinks();
        CHECK.range(7, "seed", z -> x.seed(z) ? 1 : 0, 0, 999999999, 0);
        CHECK.due(7, "not as told", x.count(5), 4);
        LuckLinks one = drawnBehind(5);
        LuckLinks two = drawnBehind(5, -1, 1000000000, Integer.MIN_VALUE, Integer.MAX_VALUE);
        LuckLinks zero = drawnBehind(0);
        LuckLinks most = drawnBehind(999999999);
        boolean areOther = false;
        for (int day = 0; day < 4; day++) {
            CHECK.due(7, "z stays", two.score(0, 0, day, 0), one.score(0, 0, day, 0));
            areOther |= zero.score(0, 0, day, 0) != most.score(0, 0, day, 0);
        }
        CHECK.due(7, "the least and the greatest draw otherwise", areOther, true);
        // z 0 becomes 1442695040888963407: the draws of the four drifts are modulo 1, then comes the first luck.
        long z = 0;
        for (int i = 0; i < 5; i++) {
            z = z * 6364136223846793005L + 1442695040888963407L;
        }
        CHECK.due(7, "drawn by z 0", zero.score(0, 0, 0, 0), 20 - 9 + (z >>> 33) % 19);
    }

    private static LuckLinks drawnBehind(int... seeds) {
        LuckLinks x = Check.withPlayers(1);
        Check.law(x, "luck tee 9;press tee more 20;");
        for (int seed : seeds) {
            x.seed(seed);
        }
        x.run(0, 1);
        return x;
    }

    /** "-100: none such." */
    private static void giftsAsked() {
        LuckLinks x = new LuckLinks();
        x.player(1, 2, 3, 4);
        x.player(5, 6, 7, 8);
        CHECK.range(13, "gift of a player", p -> x.gift(p, 0), 0, 1, -100);
        CHECK.range(13, "gift by a part", part -> x.gift(1, part), 0, 3, -100);
        CHECK.due(13, "asking is not refused", x.count(5), 0);
    }

    /** "-1: none such." */
    private static void scoresAsked() {
        LuckLinks x = Check.withPlayers(2);
        for (int player = 0; player < 2; player++) {
            for (int day = 0; day < 4; day++) {
                x.round(player, 0, 12 * day, 5);
                x.round(player, 39, 12 * day, 5);
            }
        }
        CHECK.range(14, "score of a player", p -> x.score(p, 0, 0, 0), 0, 1, -1);
        CHECK.range(14, "score in a week", week -> x.score(0, week, 3, 0), 0, 39, -1);
        CHECK.range(14, "score on a day", day -> x.score(1, 39, day, 0), 0, 3, -1);
        CHECK.range(14, "score by a part", part -> x.score(1, 0, 0, part), -1, 4, -1);
        CHECK.due(14, "a week without one", x.score(0, 1, 0, 0), -1);
        x.round(0, 2, 0, 0);
        CHECK.due(14, "no strokes are a score", x.score(0, 2, 0, 0), 0);
        CHECK.due(14, "hour 0 is an hour", x.score(0, 2, 0, 4), 0);
        CHECK.due(14, "a day without one", x.score(0, 2, 1, 4), -1);
        CHECK.due(14, "asking is not refused", x.count(5), 0);
    }

    /** "An IMAGE: its number. NONE, doing nothing but REFUSED: 3 are there." */
    private static void imagesUpToThree() {
        LuckLinks x = new LuckLinks();
        for (int i = 0; i < 3; i++) {
            CHECK.due(37, "image " + i, x.image(), i);
            x.player(i, 0, 0, 0);
        }
        CHECK.due(37, "nothing was refused", x.count(6), 0);
        CHECK.due(37, "the 4th", x.image(), -1);
        CHECK.due(37, "reason 1", x.count(6), 1);
        CHECK.due(37, "not reason 0", x.count(5), 0);
        CHECK.due(37, "3 are there", x.count(4), 3);
        CHECK.due(37, "the players stay", x.count(0), 3);
        CHECK.due(37, "the last image", x.restore(2), true);
        CHECK.due(37, "is as it was", x.count(0), 2);
        CHECK.due(37, "no room behind a restore, either", x.image(), -1);
        CHECK.due(37, "reason 1", x.count(6), 2);
    }

    /** "false, doing nothing but REFUSED: none such." */
    private static void restoresOfImagesThereAre() {
        LuckLinks x = new LuckLinks();
        CHECK.due(38, "none at all", x.restore(0), false);
        x.image();
        x.image();
        x.player(0, 0, 0, 0);
        int[] wrong = {-1, 2, 3, Integer.MIN_VALUE, Integer.MAX_VALUE};
        for (int image : wrong) {
            CHECK.due(38, "restore(" + image + ")", x.restore(image), false);
            CHECK.due(38, "the player stays", x.count(0), 1);
        }
        CHECK.due(38, "reason 0", x.count(5), 6);
        CHECK.due(38, "not reason 1", x.count(6), 0);
        CHECK.due(38, "the last one", x.restore(1), true);
        CHECK.due(38, "no player", x.count(0), 0);
        CHECK.due(38, "the first one", x.restore(0), true);
    }

    /** "All is as in an IMAGE": one of nothing, and one of all that there can be. */
    private static void imagesOfNothingAndOfAll() {
        LuckLinks x = new LuckLinks();
        x.image();
        for (int i = 0; i < 20; i++) {
            x.player(i, 0, 0, 0);
        }
        for (int i = 0; i < 6; i++) {
            x.course(10 + i, 0, 0, 0);
        }
        for (int week = 0; week < 40; week++) {
            x.week(week, week % 6);
        }
        for (int week = 25; week < 40; week++) {
            x.run(week, 0xfffff);
        }
        x.bet(19, 39, 777);
        int held = x.held(39, 1);
        x.image();
        CHECK.due(38, "nothing", x.restore(0), true);
        for (int what = 0; what <= 2; what++) {
            CHECK.due(38, "count(" + what + ")", x.count(what), 0);
        }
        CHECK.due(38, "no week 39", x.count(49), -1);
        CHECK.due(38, "no score", x.score(19, 39, 3, 4), -1);
        CHECK.due(38, "no gift", x.gift(19, 0), -100);
        CHECK.due(38, "no bet", x.held(39, 1), 0);
        CHECK.due(38, "a player of other gifts", x.player(-9, -9, -9, -9), 0);
        CHECK.due(38, "all", x.restore(1), true);
        CHECK.due(38, "players", x.count(0), 20);
        CHECK.due(38, "courses", x.count(1), 6);
        CHECK.due(38, "rounds", x.count(2), 1200);
        CHECK.due(38, "week 39", x.count(49), 3);
        CHECK.due(38, "the first gift", x.gift(0, 0), 0);
        CHECK.due(38, "the last gift", x.gift(19, 0), 19);
        CHECK.due(38, "the last score", x.score(19, 39, 3, 0), 13 + 19);
        CHECK.due(38, "its hour", x.score(19, 39, 3, 4), 0);
        CHECK.due(38, "the last bet", x.held(39, 1), held);
        CHECK.due(38, "full again", x.player(0, 0, 0, 0), -1);
        CHECK.due(38, "full again", x.course(0, 0, 0, 0), -1);
        CHECK.due(38, "full again", x.round(0, 0, 0, 0), -1);
        CHECK.due(38, "reason 1", x.count(6), 3);
    }

    /** "All is as in an IMAGE", where other things of the same numbers were told in between. */
    private static void imagesOfOtherThings() {
        LuckLinks x = new LuckLinks();
        Check.law(x, "luck last 9;");
        x.image();
        x.player(1, 2, 3, 4);
        x.course(10, 20, 30, 31);
        x.week(0, 0);
        x.week(1, 0);
        x.round(0, 1, 5, 8070605);
        x.bet(0, 1, 50);
        x.seed(5);
        x.image();
        CHECK.due(38, "nothing", x.restore(0), true);
        x.player(-5, -6, -7, -8);
        x.course(50, 51, 52, 53);
        x.week(1, 0);
        x.week(2, 0);
        x.round(0, 1, 7, 2);
        x.round(0, 1, 12, 3);
        x.bet(0, 1, 60);
        x.seed(6);
        CHECK.due(38, "all but that", x.restore(1), true);
        int[] want = {5, 6, 7, 8, 5};
        for (int part = 0; part < 5; part++) {
            CHECK.due(38, "the round by " + part, x.score(0, 1, 0, part), want[part]);
        }
        CHECK.due(38, "not the round on the next day", x.score(0, 1, 1, -1), -1);
        CHECK.due(38, "the bet", x.held(1, 1), 50);
        CHECK.due(38, "not the week", x.count(12), -1);
        CHECK.due(38, "one player", x.count(0), 1);
        CHECK.due(38, "one course", x.count(1), 1);
        CHECK.due(38, "one round", x.count(2), 1);
        CHECK.due(38, "its number", x.round(0, 1, 12, 0), 1);
        CHECK.due(12, "its week", x.run(0, 1), 4);
        long z = 5;
        for (int i = 0; i < 8; i++) {
            z = z * 6364136223846793005L + 1442695040888963407L;
        }
        int[] drawn = {11, 22, 33, 35 + (int) ((z >>> 33) % 19) - 9};
        for (int part = 0; part < 4; part++) {
            CHECK.due(38, "drawn by gift, course and z, part " + part, x.score(0, 0, 0, part), drawn[part]);
        }
    }

    /** "0 PLAYERS, .. 5 to 7 REFUSED by reason, 10 + w the COURSE of WEEK w (NONE). NONE for others." */
    private static void countsAsked() {
        LuckLinks x = new LuckLinks();
        x.course(0, 0, 0, 0);
        x.week(0, 0);
        x.week(39, 0);
        CHECK.range(39, "count of things", what -> x.count(what), 0, 7, -1);
        CHECK.range(39, "count of weeks", what -> x.count(what), 10, 49, -1);
        CHECK.due(39, "count(8)", x.count(8), -1);
        CHECK.due(39, "count(9)", x.count(9), -1);
        CHECK.due(39, "a week without a course", x.count(11), -1);
        x.player(0, 0, 0, 0);
        x.round(0, 0, 0, 0);
        x.feed(0x20202020, 0x20202020, 0x20202020, 0x20202020, 0x20202020);
        x.image();
        x.seed(-1);
        x.seed(-1);
        x.seed(-1);
        x.image();
        x.image();
        x.image();
        x.image();
        x.feed(0, 0, 0, 0, 0);
        x.law(40);
        x.feed(0, 0, 0, 0, 0);
        int[] want = {1, 1, 1, 20, 3, 3, 2, 1};
        for (int what = 0; what < 8; what++) {
            CHECK.due(39, "count(" + what + ")", x.count(what), want[what]);
        }
    }

    /** "An object is used for at most 512 calls": the last of them is answered as the first. */
    private static void allCallsUpToTheLast() {
        LuckLinks x = new LuckLinks();
        for (int i = 1; i < 512; i++) {
            x.seed(-1);
        }
        CHECK.due(39, "call 512", x.count(5), 511);
        LuckLinks y = new LuckLinks();
        y.player(0, 0, 0, 0);
        y.course(0, 0, 0, 0);
        y.week(0, 0);
        for (int i = 4; i < 512; i++) {
            y.round(0, 0, 12, 0);
        }
        CHECK.due(5, "call 512", y.round(0, 0, 0, 0), 0);
    }
}
