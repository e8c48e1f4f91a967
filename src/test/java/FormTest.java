/** SKILL, SPAN, BEST, ODDS, NEED, LASTS, PUT RIGHT and HELD: promises 20 to 28 and 31. */
public final class FormTest {
    private static final Check CHECK = new Check();
    private static final long NO_SKILL = -1000000000000L;

    private FormTest() {
    }

    public static void main(String[] args) {
        skills();
        skillsByWeights();
        skillsWrong();
        spans();
        bests();
        years();
        odds();
        oddsBySkill();
        oddsWrong();
        needs();
        needsOfManyRounds();
        lasts();
        most();
        halvesWrong();
        right();
        held();
        CHECK.end("FormTest");
    }

    /** One round of each player on a day, all strokes on the first part; below 0: none. */
    private static void day(LuckLinks x, int week, int day, int... strokes) {
        for (int p = 0; p < strokes.length; p++) {
            if (strokes[p] >= 0) {
                CHECK.due(5, "round", x.round(p, week, 12 * day + p % 12, strokes[p]) >= 0, true);
            }
        }
    }

    private static void skill(LuckLinks x, int player, int part, int week, long up, long low) {
        String call = "skill(" + player + ", " + part + ", " + week + ", ";
        CHECK.due(20, call + "0)", x.skill(player, part, week, 0), up);
        CHECK.due(20, call + "1)", x.skill(player, part, week, 1), low);
    }

    private static void skills() {
        LuckLinks x = Check.withPlayers(3);
        x.round(0, 0, 0, 10 + 100 * 7);
        x.round(1, 0, 0, 11 + 100 * 5);
        x.round(2, 0, 0, 11 + 100 * 5);
        // By part 0 the mean is 32/3, by part 1 17/3, by NONE 49/3.
        skill(x, 0, 0, 1, -2, 3);
        skill(x, 0, 1, 1, 4, 3);
        skill(x, 0, -1, 1, 2, 3);
        skill(x, 1, -1, 1, -1, 3);
        skill(x, 1, 2, 1, 0, 1);
        skill(x, 0, -1, 0, NO_SKILL, NO_SKILL);
        day(x, 0, 1, 20, 30, -1);
        // OFF on day 1: -5, 5: 2/3 - 5 by two.
        skill(x, 0, -1, 1, -13, 6);
        skill(x, 0, -1, 40, -13, 6);
        skill(x, 2, -1, 40, -1, 3);
        day(x, 39, 0, 50, 60, -1);
        skill(x, 0, -1, 39, -13, 6);
        skill(x, 0, -1, 40, -28, 9);
        // A round told later moves the means of its day.
        day(x, 39, 0, -1, -1, 70);
        skill(x, 0, -1, 40, -43, 9);
    }

    private static void skillsByWeights() {
        LuckLinks x = Check.withPlayers(2);
        day(x, 0, 0, 10, 20);
        day(x, 1, 0, 20, 10);
        day(x, 1, 1, 20, 12);
        day(x, 3, 0, 10, 12);
        // OFF of player 0: -5; 5, 4; -1.
        skill(x, 0, -1, 4, 3, 4);
        Check.law(x, "weigh 2 3;weigh 4 10;");
        // Ahead of week 4: AGE 4 weighs 10, AGE 3 weighs 3, AGE 1 weighs 1.
        skill(x, 0, -1, 4, -50 + 27 - 1, 17);
        skill(x, 0, -1, 2, -15 + 9, 5);
        skill(x, 0, -1, 1, -5, 1);
        // AGE 40 and 39, 37: all as 39.
        skill(x, 0, -1, 40, 3, 4);
        Check.law(x, "weigh 0 0;weigh 3 1;");
        skill(x, 0, -1, 3, -5, 1);
        skill(x, 0, -1, 2, NO_SKILL, NO_SKILL);
        skill(x, 0, -1, 4, 4, 3);
        Check.law(x, "weigh 39 2;weigh 38 0;weigh 0 0;");
        // AGE 40 weighs as AGE 39: -10 + 10 + 8 by six.
        skill(x, 0, -1, 40, 4, 3);
        skill(x, 0, -1, 39, -5, 1);
        Check.law(x, "weigh 0 20;");
        skill(x, 0, -1, 40, 3, 4);
    }

    private static void skillsWrong() {
        LuckLinks x = Check.withPlayers(1);
        day(x, 0, 0, 10);
        skill(x, 0, -1, 1, 0, 1);
        skill(x, 1, -1, 1, NO_SKILL, NO_SKILL);
        skill(x, -1, -1, 1, NO_SKILL, NO_SKILL);
        skill(x, 0, -2, 1, NO_SKILL, NO_SKILL);
        skill(x, 0, 4, 1, NO_SKILL, NO_SKILL);
        skill(x, 0, -1, -1, NO_SKILL, NO_SKILL);
        skill(x, 0, -1, 41, NO_SKILL, NO_SKILL);
        CHECK.due(20, "skill, what 2", x.skill(0, -1, 1, 2), NO_SKILL);
        CHECK.due(20, "skill, what -1", x.skill(0, -1, 1, -1), NO_SKILL);
    }

    private static void span(LuckLinks x, int part, int week, int least, int greatest) {
        CHECK.due(21, "span(0, " + part + ", " + week + ", 0)", x.span(0, part, week, 0), least);
        CHECK.due(21, "span(0, " + part + ", " + week + ", 1)", x.span(0, part, week, 1), greatest);
    }

    private static void spans() {
        int none = -1000000;
        LuckLinks x = Check.withPlayers(2);
        day(x, 0, 0, 10, 20);
        day(x, 0, 1, 10, 11);
        span(x, -1, 1, none, none);
        day(x, 2, 0, 20, 12);
        // OFF: -5, -1/2; 4. Without week 0: 4; without week 2: -11/4.
        span(x, -1, 3, -275, 400);
        span(x, 0, 3, -275, 400);
        span(x, 1, 3, 0, 0);
        span(x, -1, 2, none, none);
        day(x, 3, 0, 10, 11);
        // Without week 0: 7/4; without 2: -6/3; without 3: -3/6.
        span(x, -1, 4, -200, 175);
        span(x, -1, 40, -200, 175);
        Check.law(x, "weigh 0 0;weigh 2 1;");
        // Week 3 weighs nothing: without week 0: 4; without 2: -11/4; without 3: -1/2.
        span(x, -1, 4, -275, 400);
        span(x, -1, 5, -200, 175);
        Check.law(x, "weigh 0 0;weigh 4 3;");
        span(x, -1, 4, none, none);
        LuckLinks z = Check.withPlayers(2);
        day(z, 0, 0, 20, 0);
        day(z, 1, 0, 0, 8);
        day(z, 1, 1, 0, 8);
        day(z, 2, 0, 0, 6);
        Check.law(z, "weigh 1 7;weigh 2 3;weigh 3 2;");
        // OFF 10; -4, -4; -3 weigh 2, 3 and 7. Without week 0: -45/13; 1: -1/9; 2: -4/8.
        span(z, -1, 3, -346, -11);
        LuckLinks y = Check.withPlayers(3);
        day(y, 0, 0, 10, 10, 11);
        day(y, 1, 0, 10, 11, 10);
        // OFF: -1/3 each: what is behind the point goes.
        CHECK.due(21, "cut", y.span(0, -1, 2, 0), -33);
        CHECK.due(21, "cut", y.span(0, -1, 2, 1), -33);
        CHECK.due(21, "cut", y.span(1, -1, 2, 1), 66);
        CHECK.due(21, "span of no player", y.span(3, -1, 2, 0), none);
        CHECK.due(21, "span of player -1", y.span(-1, -1, 2, 0), none);
        CHECK.due(21, "span by 4", y.span(0, 4, 2, 0), none);
        CHECK.due(21, "span by -2", y.span(0, -2, 2, 0), none);
        CHECK.due(21, "span ahead of 41", y.span(0, -1, 41, 0), none);
        CHECK.due(21, "span ahead of -1", y.span(0, -1, -1, 0), none);
        CHECK.due(21, "span, what 2", y.span(0, -1, 2, 2), none);
        CHECK.due(21, "span, what -1", y.span(0, -1, 2, -1), none);
    }

    private static void bests() {
        LuckLinks x = Check.withPlayers(4);
        CHECK.due(22, "best(40) without rounds", x.best(40), -1);
        day(x, 1, 0, -1, 10, 10, 11);
        CHECK.due(22, "best(1)", x.best(1), -1);
        CHECK.due(22, "best(2): of several the least number", x.best(2), 1);
        day(x, 2, 0, 10, 11, 10, 12);
        // OFF: 0: -3/4; 1: -1/3, 1/4; 2: -1/3, -3/4; 3: more.
        CHECK.due(22, "best(3)", x.best(3), 0);
        day(x, 3, 0, 12, -1, 10, -1);
        // 0: -3/4 + 1; 2: -1/3 - 3/4 - 1 by three.
        CHECK.due(22, "best(4)", x.best(4), 2);
        CHECK.due(22, "best(40)", x.best(40), 2);
        CHECK.due(22, "best(41)", x.best(41), -1);
        CHECK.due(22, "best(-1)", x.best(-1), -1);
        LuckLinks many = Check.withPlayers(3);
        day(many, 0, 0, 10, 12, -1);
        day(many, 0, 1, 10, 12, -1);
        day(many, 0, 2, 10, 12, -1);
        day(many, 1, 0, -1, 15, 12);
        // 0: -1 of three rounds; 2: -3/2 of one.
        CHECK.due(22, "best by means, not by sums", many.best(2), 2);
        CHECK.due(22, "best(1)", many.best(1), 0);
        Check.law(x, "weigh 0 0;weigh 2 1;");
        CHECK.due(22, "best(2): no weight", x.best(2), -1);
        CHECK.due(22, "best(4): week 3 weighs nothing", x.best(4), 0);
    }

    private static void years() {
        LuckLinks x = Check.withPlayers(3);
        CHECK.due(23, "years without rounds", x.years(0), 0);
        day(x, 4, 0, 20, 10, -1);
        CHECK.due(23, "years(1): ahead of weeks 5 to 40", x.years(1), 36);
        CHECK.due(23, "years(0)", x.years(0), 0);
        day(x, 9, 0, 10, 40, -1);
        // Ahead of weeks 5 to 9 it is 1, of weeks 10 on 0: (5 - 15) by 2.
        CHECK.due(23, "years(1)", x.years(1), 5);
        CHECK.due(23, "years(0)", x.years(0), 31);
        day(x, 20, 0, 99, 10, -1);
        CHECK.due(23, "years(0): ahead of weeks 10 to 20", x.years(0), 11);
        CHECK.due(23, "years(1): ahead of weeks 21 to 40", x.years(1), 20);
        CHECK.due(23, "years(2)", x.years(2), 0);
        CHECK.due(23, "years(3)", x.years(3), -1);
        CHECK.due(23, "years(-1)", x.years(-1), -1);
        LuckLinks all = Check.withPlayers(1);
        day(all, 0, 0, 1);
        CHECK.due(23, "years: all of them", all.years(0), 40);
        LuckLinks last = Check.withPlayers(1);
        day(last, 39, 0, 1);
        CHECK.due(23, "years: ahead of week 40", last.years(0), 1);
    }

    private static void odds() {
        LuckLinks x = Check.withPlayers(3);
        // Without luck nobody is above one of the same skill.
        CHECK.due(24, "odds of one alone", x.odds(0, 1, 0), 1000000);
        CHECK.due(24, "odds of two", x.odds(0, 3, 0), 0);
        Check.law(x, "luck tee 1;luck last 1;");
        // The lot of -2 to 2: 1, 2, 3, 2, 1 of 9: 111111, 222222, 333333, 222222, 111111.
        CHECK.due(24, "odds of one alone", x.odds(2, 4, 0), 999999);
        // Above -2: 888888, -1: 666666, 0: 333333, 1: 111111.
        int two = 98765 + 148147 + 111110 + 24691;
        CHECK.due(24, "odds of two", x.odds(0, 3, 0), two);
        CHECK.due(24, "odds of two", x.odds(2, 6, 40), two);
        int three = 87791 + 98764 + 37036 + 2743;
        CHECK.due(24, "odds of three", x.odds(1, 7, 0), three);
    }

    private static void oddsBySkill() {
        LuckLinks x = Check.withPlayers(4);
        day(x, 0, 0, 10, 13, -1, -1);
        Check.law(x, "luck long 2;");
        // The lot: 200000 each from -2 to 2. SKILL: -1 (-3/2 cut), 1 (3/2 cut), none: 0.
        // 0 against 1: 1 + t > -1 + s: for s -2 and -1 and 0 all but: t > s - 2.
        int[] above = {5, 5, 4, 3, 2};
        int want = 0;
        for (int many : above) {
            want += 200000 * (many * 2) / 10;
        }
        CHECK.due(24, "odds of the better one", x.odds(0, 3, 1), want);
        int[] worse = {2, 1, 0, 0, 0};
        int less = 0;
        for (int many : worse) {
            less += 200000 * (many * 2) / 10;
        }
        CHECK.due(24, "odds of the other one", x.odds(1, 3, 1), less);
        // Against 2, without skill: t > s - 1.
        int[] middle = {5, 4, 3, 2, 1};
        int between = 0;
        for (int many : middle) {
            between += 200000 * (many * 2) / 10;
        }
        CHECK.due(24, "odds beside one without skill", x.odds(0, 5, 1), between);
        CHECK.due(24, "odds ahead of week 0: no skill at all", x.odds(0, 3, 0), 400000);
        day(x, 0, 1, 10, 13, -1, -1);
        day(x, 0, 2, 10, 13, -1, -1);
        CHECK.due(24, "odds by skills of three rounds", x.odds(0, 3, 1), want);
        day(x, 5, 0, 99, 1, -1, -1);
        // (-9/2 + 49) by four: 11 whole strokes.
        CHECK.due(24, "odds far behind", x.odds(0, 3, 6), 0);
        CHECK.due(24, "odds far ahead", x.odds(1, 3, 6), 1000000);
    }

    private static void oddsWrong() {
        LuckLinks x = Check.withPlayers(3);
        CHECK.due(24, "odds of one who isn't of it", x.odds(2, 3, 0), -1);
        CHECK.due(24, "odds of no player", x.odds(3, 8, 0), -1);
        CHECK.due(24, "odds of player -1", x.odds(-1, 7, 0), -1);
        CHECK.due(24, "odds of player 32", x.odds(32, 7, 0), -1);
        CHECK.due(24, "odds with no player in the field", x.odds(0, 9, 0), -1);
        CHECK.due(24, "odds of field -1", x.odds(0, -1, 0), -1);
        CHECK.due(24, "odds of field 0", x.odds(0, 0, 0), -1);
        CHECK.due(24, "odds ahead of week -1", x.odds(0, 1, -1), -1);
        CHECK.due(24, "odds ahead of week 41", x.odds(0, 1, 41), -1);
    }

    private static void needs() {
        LuckLinks x = new LuckLinks();
        CHECK.due(25, "need without luck", x.need(1, 100), 1);
        CHECK.due(25, "need without luck", x.need(40, 1), 1);
        Check.law(x, "luck short 1;");
        // One round: 111110 each way: from -2 to 2: 111110, 222220, 333330, 222220, 111110.
        CHECK.due(25, "above -1: 666660", x.need(1, 66), 1);
        CHECK.due(25, "above -2: 888880", x.need(2, 88), 1);
        CHECK.due(25, "all: 999990", x.need(3, 99), 1);
        CHECK.due(25, "never all of them", x.need(40, 100), -1);
        // Two rounds: above -2: 0, 1, 2, 3, 4 and -1 of the sum: by hand below.
        long[] one = {111110, 222220, 333330, 222220, 111110};
        long[] two = new long[9];
        for (int a = 0; a < 5; a++) {
            for (int b = 0; b < 5; b++) {
                two[a + b] += one[a] * one[b] / 1000000;
            }
        }
        long above = 0;
        for (int i = 3; i < 9; i++) {
            above += two[i];
        }
        CHECK.due(25, "two rounds: above -2", above / 10000, 81);
        CHECK.due(25, "need(1, 67)", x.need(1, 67), 2);
        CHECK.due(25, "need(1, 81)", x.need(1, 81), 2);
        CHECK.due(25, "need(1, 82)", x.need(1, 82), 3);
        Check.law(x, "luck last 2;");
        CHECK.due(25, "the 30th round", x.need(1, 99), 30);
        CHECK.due(25, "need(0, 50)", x.need(0, 50), -1);
        CHECK.due(25, "need(41, 50)", x.need(41, 50), -1);
        CHECK.due(25, "need(1, 0)", x.need(1, 0), -1);
        CHECK.due(25, "need(1, 101)", x.need(1, 101), -1);
        CHECK.due(25, "need(least, most)", x.need(Integer.MIN_VALUE, Integer.MAX_VALUE), -1);
    }

    /** Against the model, at the rounds' and the luck's limits. */
    private static void needsOfManyRounds() {
        String[] laws = {"luck tee 9;luck long 9;luck short 9;luck last 9;", "luck tee 3;luck last 1;", "luck tee 9;",
            "luck tee 5;luck long 5;"};
        for (String law : laws) {
            LuckLinks x = new LuckLinks();
            Model m = new Model();
            Check.law(x, law);
            m.law = ModelLaw.read(law);
            int[] ds = {1, 2, 5, 40};
            int[] parts = {50, 52, 55, 60, 70, 90, 99};
            for (int d : ds) {
                for (int part : parts) {
                    CHECK.due(25, law + " need(" + d + ", " + part + ")", x.need(d, part), m.need(d, part));
                }
            }
        }
    }

    private static void lasts(LuckLinks x, int part, int[] weeks, int... want) {
        for (int what = 0; what < 3; what++) {
            String call = "lasts(" + part + ", " + weeks[0] + ", " + weeks[1] + ", " + weeks[2] + ", " + what + ")";
            CHECK.due(26, call, x.lasts(part, weeks[0], weeks[1], weeks[2], what), want[what]);
        }
    }

    private static void lasts() {
        LuckLinks x = Check.withPlayers(5);
        lasts(x, -1, new int[] {0, 1, 2}, 0, 0, 0);
        day(x, 0, 0, 10, 11, 12, 13, 9);
        day(x, 1, 0, 10, 12, 11, 11, -1);
        // First 0 < 1 < 2 < 3; later 0 < 2, 3 < 1 with 2 and 3 alike.
        lasts(x, -1, new int[] {0, 1, 1}, 3, 2, 4);
        lasts(x, 0, new int[] {0, 1, 39}, 3, 2, 4);
        lasts(x, 1, new int[] {0, 1, 1}, 0, 0, 4);
        day(x, 3, 0, 30, 10, 11, -1, 10);
        // Later: 0: -2/2 + .. by two rounds; 4 is in both now.
        // OFF in week 1: -1, 1, 0, 0; in week 3 the mean is 61/4: 59/4, -21/4, -17/4, -21/4.
        // Means: 0: 55/8, 1: -17/8, 2: -17/8, 3: 0, 4: -21/4; first: 4 < 0 < 1 < 2 < 3.
        lasts(x, -1, new int[] {0, 1, 3}, 6, 3, 5);
        // Halved ahead of week 3: first 0: -1/2 .. by two rounds.
        // OFF in week 0: -1, 0, 1, 2, -2; first: 0: -1, 1: 1/2, 2: 1/2, 3: 1, 4: -2.
        // Later (week 3): 0: 59/4, 1: -21/4, 2: -17/4, 4: -21/4.
        lasts(x, -1, new int[] {0, 3, 3}, 2, 2, 4);
        lasts(x, -1, new int[] {1, 3, 3}, 0, 3, 3);
        lasts(x, -1, new int[] {1, 2, 2}, 0, 0, 0);
    }

    private static void most() {
        LuckLinks x = Check.withPlayers(2);
        CHECK.due(27, "most without rounds", x.most(0, 1, 1), 0);
        x.round(0, 0, 0, 10 + 100 * 10 + 10000 * 10 + 1000000 * 10);
        x.round(1, 0, 0, 11 + 100 * 10 + 10000 * 11 + 1000000 * 11);
        x.round(0, 1, 0, 11 + 100 * 10 + 10000 * 10 + 1000000 * 10);
        x.round(1, 1, 0, 10 + 100 * 11 + 10000 * 12 + 1000000 * 13);
        // Tee: unlike; long: neither; short and last: alike.
        CHECK.due(27, "most: of several the least", x.most(0, 1, 1), 2);
        CHECK.due(27, "most", x.most(0, 1, 39), 2);
        x.round(0, 2, 0, 10000 * 99);
        x.round(1, 2, 0, 0);
        CHECK.due(27, "most", x.most(0, 1, 2), 3);
        CHECK.due(27, "most: all below 0 but neither", x.most(1, 2, 2), 0);
        LuckLinks y = Check.withPlayers(3);
        // Alike: tee 3, long 2, last 2; short: 1 unlike.
        y.round(0, 0, 0, 10 + 100 * 10 + 10000 * 10 + 1000000 * 10);
        y.round(1, 0, 0, 11 + 100 * 11 + 10000 * 11 + 1000000 * 11);
        y.round(2, 0, 0, 12 + 100 * 11 + 10000 * 11 + 1000000 * 10);
        y.round(0, 4, 0, 10 + 100 * 10 + 10000 * 11 + 1000000 * 10);
        y.round(1, 4, 0, 11 + 100 * 11 + 10000 * 10 + 1000000 * 11);
        y.round(2, 4, 0, 12 + 100 * 12 + 10000 * 11 + 1000000 * 10);
        CHECK.due(27, "most: the first part", y.most(0, 1, 39), 0);
        CHECK.due(26, "tee", y.lasts(0, 0, 1, 39, 0), 3);
        CHECK.due(26, "long", y.lasts(1, 0, 1, 39, 0), 2);
        CHECK.due(26, "short", y.lasts(2, 0, 1, 39, 1), 1);
        CHECK.due(26, "last", y.lasts(3, 0, 1, 39, 0), 2);
    }

    private static void halvesWrong() {
        LuckLinks x = Check.withPlayers(2);
        int[][] wrong = {{0, 0, 1}, {1, 1, 1}, {2, 1, 3}, {0, 2, 1}, {-1, 1, 2}, {0, 1, 40}, {0, 40, 40}, {39, 40, 40},
            {Integer.MIN_VALUE, 0, 1}};
        for (int[] w : wrong) {
            CHECK.due(26, "lasts", x.lasts(-1, w[0], w[1], w[2], 2), -1);
            CHECK.due(27, "most", x.most(w[0], w[1], w[2]), -1);
        }
        CHECK.due(26, "lasts(0, 38, 39, 39, 2)", x.lasts(0, 38, 39, 39, 2), 0);
        CHECK.due(27, "most(38, 39, 39)", x.most(38, 39, 39), 0);
        CHECK.due(26, "lasts by 4", x.lasts(4, 0, 1, 1, 2), -1);
        CHECK.due(26, "lasts by -2", x.lasts(-2, 0, 1, 1, 2), -1);
        CHECK.due(26, "lasts, what 3", x.lasts(0, 0, 1, 1, 3), -1);
        CHECK.due(26, "lasts, what -1", x.lasts(0, 0, 1, 1, -1), -1);
    }

    private static void right(LuckLinks x, int week, int day, long up, long low) {
        CHECK.due(28, "right(" + week + ", " + day + ", 0)", x.right(week, day, 0), up);
        CHECK.due(28, "right(" + week + ", " + day + ", 1)", x.right(week, day, 1), low);
    }

    private static void right() {
        LuckLinks x = Check.withPlayers(5);
        day(x, 0, 0, 10, 12, 20, 30, 50);
        day(x, 0, 1, 11, 12, 24, 30, -1);
        right(x, 0, 2, -1, -1);
        day(x, 0, 2, 12, 10, -1, -1, -1);
        // Above their means: 3/2, -2: -1/4. Those without: 22 and 30: 87/4 and 119/4; all: 22 + 206/4 by four.
        right(x, 0, 2, 147, 8);
        right(x, 0, 3, -1, -1);
        day(x, 0, 3, -1, 20, -1, -1, -1);
        // 8 above: 20, 37/2, 30, 38 by four.
        right(x, 0, 3, 213, 8);
        day(x, 1, 0, 10, 20, -1, -1, -1);
        day(x, 1, 1, 10, 20, -1, -1, -1);
        day(x, 1, 2, 30, 40, -1, -1, -1);
        right(x, 1, 2, 35, 1);
        day(x, 2, 0, 99, 0, -1, -1, -1);
        day(x, 2, 1, 99, 0, -1, -1, -1);
        day(x, 2, 2, 0, -1, -1, -1, -1);
        right(x, 2, 2, -99, 2);
        right(x, 3, 2, -1, -1);
        right(x, 0, 1, -1, -1);
        right(x, 0, 4, -1, -1);
        right(x, -1, 2, -1, -1);
        right(x, 40, 2, -1, -1);
        CHECK.due(28, "right, what 2", x.right(0, 2, 2), -1);
        CHECK.due(28, "right, what -1", x.right(0, 2, -1), -1);
    }

    private static void held(LuckLinks x, int week, int... want) {
        for (int what = 0; what < 5; what++) {
            CHECK.due(31, "held(" + week + ", " + what + ")", x.held(week, what), want[what]);
        }
    }

    private static void held() {
        LuckLinks x = Check.withPlayers(4);
        held(x, 0, 0, 0, 0, 0, 0);
        day(x, 0, 0, 10, 11, 11, -1);
        // OFF: -66, 33, 33 hundredths.
        held(x, 0, 132, 132, 132, 132, 3);
        x.bet(0, 0, -70);
        x.bet(1, 0, 40);
        x.bet(3, 0, 1000);
        x.bet(0, 1, 5);
        held(x, 0, 132, 4 + 7 + 33, 132, 132, 3);
        day(x, 0, 1, 20, 10, -1, -1);
        day(x, 2, 0, 30, 20, -1, -1);
        day(x, 5, 0, 10, -1, 12, 17);
        // Ahead of week 5: 0: OFF -2/3, 5; 5: SKILL 28/9, 311; 2: 1/3, 33; 3: none.
        // Of their latest weeks ahead: 500, 33, none. OFF in week 5: -3, -1, 4.
        held(x, 5, 611 + 133 + 400, 800, 800 + 133 + 400, 800, 3);
        // In week 2 the latest week ahead is week 0: 13/6, 216; -7/3, -233. OFF: 5, -5.
        held(x, 2, 284 + 500 - 233, 1000, 284 + 267, 1000, 2);
        day(x, 3, 0, 20, 30, -1, -1);
        // The latest week ahead is the one just ahead: OFF in week 3: -5, 5; in week 2: 5, -5.
        CHECK.due(31, "held(3, 2)", x.held(3, 2), 2000);
        x = Check.withPlayers(4);
        day(x, 0, 0, 10, 11, 11, -1);
        day(x, 0, 1, 20, 10, -1, -1);
        day(x, 2, 0, 30, 20, -1, -1);
        day(x, 5, 0, 10, -1, 12, 17);
        Check.law(x, "weigh 3 4;");
        // Week 0 is of AGE 5, week 2 of AGE 3: the same weights.
        held(x, 5, 611 + 133 + 400, 800, 800 + 133 + 400, 800, 3);
        Check.law(x, "weigh 5 0;");
        held(x, 5, 800 + 100 + 400, 800, 800 + 133 + 400, 800, 3);
        CHECK.due(31, "held, what 5", x.held(0, 5), -1);
        CHECK.due(31, "held, what -1", x.held(0, -1), -1);
        CHECK.due(31, "held in week 40", x.held(40, 0), -1);
        CHECK.due(31, "held in week -1", x.held(-1, 0), -1);
    }
}
