/** Each sentence on an edge of promises 20 to 28 and 31; the words in quotes are the document's. */
public final class EdgesOfFormTest {
    private static final Check CHECK = new Check();
    private static final long NO_SKILL = -1000000000000L;
    private static final int NO_SPAN = -1000000;

    private EdgesOfFormTest() {
    }

    public static void main(String[] args) {
        skillsAsked();
        skillsAheadOfAWeek();
        skillsOfNothing();
        weightsOfAges();
        weightsOfNothing();
        skillsOfTheMost();
        spansAsked();
        spansThatLeaveNoWeight();
        spansOfTwoWeeks();
        spansAheadOfAWeek();
        spansCut();
        bestAsked();
        bestOfSeveral();
        yearsAsked();
        yearsFromFirstToLast();
        yearsBroken();
        oddsAsked();
        oddsOfFields();
        oddsCut();
        oddsBySkillCut();
        oddsWithoutLuck();
        oddsOfTheMost();
        needsAsked();
        needsAtLeast();
        needsOfTheMost();
        needsLesserSum();
        needsUpToThirty();
        lastsAsked();
        lastsOfHalves();
        lastsOfThoseAlike();
        mostAsked();
        mostOfSeveral();
        rightAsked();
        rightWithoutOthers();
        rightWithoutMissing();
        rightOfThoseOfBothDays();
        heldAsked();
        heldWithout();
        heldCut();
        heldByTheLatestWeek();
        CHECK.end("EdgesOfFormTest");
    }

    private static void skill(LuckLinks x, int player, int week, long upper, long lower) {
        CHECK.due(20, "skill(" + player + ", -1, " + week + ", 0)", x.skill(player, -1, week, 0), upper);
        CHECK.due(20, "skill(" + player + ", -1, " + week + ", 1)", x.skill(player, -1, week, 1), lower);
    }

    /** "SKILL ahead of a WEEK (0 to 40)". "-1,000,000,000,000: none, none such." */
    private static void skillsAsked() {
        LuckLinks x = Check.withPlayers(2);
        Check.day(x, 0, 0, 10, 20);
        CHECK.range(20, "skill of a player", p -> x.skill(p, -1, 40, 0), 0, 1, NO_SKILL);
        CHECK.range(20, "skill by a part", part -> x.skill(0, part, 40, 0), -1, 3, NO_SKILL);
        CHECK.range(20, "skill ahead of a week", week -> x.skill(0, -1, week, 0), 1, 40, NO_SKILL);
        CHECK.range(20, "skill, what", what -> x.skill(0, -1, 40, what), 0, 1, NO_SKILL);
        skill(x, 0, 0, NO_SKILL, NO_SKILL);
    }

    /** "of all its ROUNDS in WEEKS ahead": not in that week, and up to the one just ahead. */
    private static void skillsAheadOfAWeek() {
        LuckLinks x = Check.withPlayers(2);
        Check.day(x, 5, 0, 10, 20);
        Check.day(x, 39, 0, 10, 40);
        skill(x, 0, 5, NO_SKILL, NO_SKILL);
        skill(x, 0, 6, -5, 1);
        skill(x, 0, 39, -5, 1);
        skill(x, 0, 40, -10, 1);
    }

    private static void skillsOfNothing() {
        LuckLinks x = Check.withPlayers(3);
        skill(x, 0, 40, NO_SKILL, NO_SKILL);
        Check.day(x, 0, 0, 10, -1, -1);
        skill(x, 0, 40, 0, 1);
        skill(x, 1, 40, NO_SKILL, NO_SKILL);
        Check.day(x, 0, 0, -1, 10, -1);
        skill(x, 0, 40, 0, 1);
        CHECK.due(20, "by a part without strokes", x.skill(0, 3, 40, 1), 1);
    }

    /** "WEIGHT of an AGE: of the \"weigh\" with the greatest AGE not above it; 1 without." */
    private static void weightsOfAges() {
        LuckLinks x = new LuckLinks();
        Check.law(x, "weigh 5 7;weigh 10 3;weigh 39 20;");
        int[][] want = {{0, 1}, {4, 1}, {5, 7}, {6, 7}, {9, 7}, {10, 3}, {11, 3}, {38, 3}, {39, 20}};
        for (int[] one : want) {
            CHECK.due(11, "weight of age " + one[0], x.rule(100 + one[0]), one[1]);
        }
        LuckLinks y = Check.withPlayers(2);
        Check.day(y, 0, 0, 10, 20);
        Check.day(y, 30, 0, 30, 20);
        // OFF -5 and 5. Ahead of week 40 their ages are 40 and 10, of week 39 they are 39 and 9, of week 38 38 and 8.
        Check.law(y, "weigh 10 3;weigh 39 20;");
        skill(y, 0, 40, -85, 23);
        skill(y, 0, 39, -95, 21);
        skill(y, 0, 38, -5, 2);
        Check.law(y, "weigh 1 3;weigh 0 9;");
        skill(y, 0, 31, 0, 1);
        // A weight of age 0 holds for all, with none above it.
        Check.law(y, "weigh 0 20;");
        skill(y, 0, 1, -5, 1);
        skill(y, 0, 40, 0, 1);
    }

    /** "(none without)": no weight at all. */
    private static void weightsOfNothing() {
        LuckLinks x = Check.withPlayers(2);
        Check.day(x, 0, 0, 10, 20);
        Check.law(x, "weigh 0 0;");
        skill(x, 0, 1, NO_SKILL, NO_SKILL);
        skill(x, 0, 40, NO_SKILL, NO_SKILL);
        Check.law(x, "weigh 2 0;");
        skill(x, 0, 1, -5, 1);
        skill(x, 0, 2, NO_SKILL, NO_SKILL);
        Check.law(x, "weigh 0 0;weigh 2 1;");
        skill(x, 0, 1, NO_SKILL, NO_SKILL);
        skill(x, 0, 2, -5, 1);
        Check.law(x, "weigh 0 0;weigh 39 1;");
        skill(x, 0, 38, NO_SKILL, NO_SKILL);
        skill(x, 0, 39, -5, 1);
        skill(x, 0, 40, -5, 1);
    }

    /** The greatest OFF, weights and numbers of rounds. */
    private static void skillsOfTheMost() {
        LuckLinks x = Check.withPlayers(20);
        Check.law(x, "weigh 0 20;weigh 1 19;");
        for (int player = 0; player < 20; player++) {
            for (int day = 0; day < 4; day++) {
                x.round(player, 0, 12 * day, player == 19 ? 99999999 : 0);
                x.round(player, 39, 12 * day, player == 19 ? 99999999 : 0);
            }
        }
        // 396 less 396 by 20.
        skill(x, 19, 40, 1881, 5);
        skill(x, 0, 40, -99, 5);
        skill(x, 19, 1, 1881, 5);
        CHECK.due(21, "the least", x.span(19, -1, 40, 0), 37620);
        CHECK.due(21, "the greatest", x.span(0, -1, 40, 1), -1980);
        CHECK.due(22, "the best", x.best(40), 0);
        CHECK.due(31, "held", x.held(39, 3), 37620 + 19 * 1980);
        CHECK.due(31, "held by skill", x.held(39, 0), 0);
    }

    /** "-1,000,000: none, none such." */
    private static void spansAsked() {
        LuckLinks x = Check.withPlayers(2);
        Check.day(x, 0, 0, 10, 20);
        Check.day(x, 1, 0, 10, 30);
        CHECK.range(21, "span of a player", p -> x.span(p, -1, 40, 0), 0, 1, NO_SPAN);
        CHECK.range(21, "span by a part", part -> x.span(0, part, 40, 0), -1, 3, NO_SPAN);
        CHECK.range(21, "span ahead of a week", week -> x.span(0, -1, week, 0), 2, 40, NO_SPAN);
        CHECK.range(21, "span, what", what -> x.span(0, -1, 40, what), 0, 1, NO_SPAN);
        CHECK.due(21, "ahead of week 0", x.span(0, -1, 0, 1), NO_SPAN);
    }

    private static void span(LuckLinks x, int week, int least, int greatest) {
        CHECK.due(21, "span(0, -1, " + week + ", 0)", x.span(0, -1, week, 0), least);
        CHECK.due(21, "span(0, -1, " + week + ", 1)", x.span(0, -1, week, 1), greatest);
    }

    /** "(none, if one leaves no WEIGHT)". */
    private static void spansThatLeaveNoWeight() {
        LuckLinks x = Check.withPlayers(2);
        span(x, 40, NO_SPAN, NO_SPAN);
        for (int day = 0; day < 4; day++) {
            Check.day(x, 0, day, 10, 20);
        }
        span(x, 40, NO_SPAN, NO_SPAN);
        Check.day(x, 3, 0, 20, 10);
        span(x, 3, NO_SPAN, NO_SPAN);
        span(x, 4, -500, 500);
        // Week 3 weighs nothing ahead of week 4: week 0 left out leaves none, though week 3 left out leaves some.
        Check.law(x, "weigh 0 0;weigh 2 1;");
        span(x, 4, NO_SPAN, NO_SPAN);
        span(x, 5, -500, 500);
        Check.law(x, "weigh 4 0;");
        span(x, 4, NO_SPAN, NO_SPAN);
        Check.law(x, "weigh 0 0;");
        span(x, 40, NO_SPAN, NO_SPAN);
        Check.day(x, 1, 0, 10, 11);
        Check.law(x, "weigh 0 0;weigh 2 1;");
        // Weeks 0 and 1 weigh 1 each, week 3 nothing: it may be left out.
        span(x, 4, -500, -50);
    }

    private static void spansOfTwoWeeks() {
        LuckLinks x = Check.withPlayers(2);
        Check.day(x, 0, 0, 10, 20);
        Check.day(x, 39, 0, 30, 20);
        span(x, 39, NO_SPAN, NO_SPAN);
        span(x, 40, -500, 500);
        LuckLinks alike = Check.withPlayers(2);
        Check.day(alike, 0, 0, 10, 20);
        Check.day(alike, 1, 0, 10, 20);
        span(alike, 2, -500, -500);
    }

    /** "one of those WEEKS": only weeks ahead are left out, not that week nor those behind it. */
    private static void spansAheadOfAWeek() {
        LuckLinks x = Check.withPlayers(2);
        int[] others = {12, 16, 30, 90, 10};
        for (int week = 0; week < 5; week++) {
            Check.day(x, week, 0, 10, others[week]);
        }
        Check.day(x, 39, 0, 10, -1);
        // OFF -1, -3, -10, -40, 0, and 0 in week 39.
        span(x, 2, -300, -100);
        span(x, 3, -650, -200);
        span(x, 4, -1766, -466);
        span(x, 5, -1350, -350);
        Check.law(x, "weigh 0 7;weigh 1 1;weigh 3 5;");
        span(x, 2, -300, -100);
        // Ages 3, 2, 1: weights 5, 1, 1.
        span(x, 3, -650, -133);
    }

    /** "in hundredths (cut; ..)": what is behind them goes, below 0, too. */
    private static void spansCut() {
        LuckLinks x = Check.withPlayers(3);
        Check.day(x, 0, 0, 10, 11, 11);
        Check.day(x, 1, 0, 11, 10, 10);
        span(x, 2, -66, 66);
        CHECK.due(21, "a third below", x.span(1, -1, 2, 0), -33);
        CHECK.due(21, "a third above", x.span(1, -1, 2, 1), 33);
        // The least and the greatest are found ahead of the cut: -2/3 and -5/7 and the like are told apart.
        LuckLinks y = Check.withPlayers(20);
        Check.day(y, 0, 0, 0, 1, 1, 1, 1, 1, 1, 1, 1, 1, 1, 1, 1, 1, 1, 1, 1, 1, 1, 1);
        Check.day(y, 1, 0, 0, 1, 1, 1, 1, 1, 1, 1, 1, 1, 1, 1, 1, 1, 1, 1, 1, 1, 1, -1);
        span(y, 2, -95, -94);
    }

    private static void bestAsked() {
        LuckLinks x = Check.withPlayers(2);
        Check.day(x, 0, 0, 10, 20);
        CHECK.range(22, "best ahead of a week", week -> x.best(week), 1, 40, -1);
        CHECK.due(22, "ahead of week 0", x.best(0), -1);
        LuckLinks last = Check.withPlayers(2);
        Check.day(last, 39, 0, 20, 10);
        CHECK.due(22, "ahead of week 39: none", last.best(39), -1);
        CHECK.due(22, "ahead of week 40", last.best(40), 1);
    }

    /** "the PLAYER with the least SKILL by NONE (of several the least number)". */
    private static void bestOfSeveral() {
        LuckLinks x = Check.withPlayers(4);
        Check.day(x, 0, 0, -1, 10, 10, 11);
        CHECK.due(22, "one without a skill isn't it", x.best(1), 1);
        Check.day(x, 1, 0, 10, -1, -1, -1);
        CHECK.due(22, "a skill of 0 is more than one below", x.best(2), 1);
        // Parts against one another: all together count.
        LuckLinks y = Check.withPlayers(2);
        y.round(0, 0, 0, 99);
        y.round(1, 0, 0, 9900);
        CHECK.due(22, "all parts together", y.best(1), 0);
        LuckLinks one = Check.withPlayers(1);
        Check.day(one, 0, 0, 99);
        CHECK.due(22, "one alone", one.best(1), 0);
        Check.law(one, "weigh 0 0;");
        CHECK.due(22, "no weight: none", one.best(1), -1);
        LuckLinks full = Check.withPlayers(20);
        for (int player = 0; player < 20; player++) {
            full.round(player, 0, 0, 50 - player);
        }
        CHECK.due(22, "the last of twenty", full.best(1), 19);
    }

    private static void yearsAsked() {
        LuckLinks x = Check.withPlayers(3);
        CHECK.range(23, "years of a player", p -> x.years(p), 0, 2, -1);
        CHECK.due(23, "nobody is the best", x.years(0), 0);
    }

    /** "the longest row of WEEKS (1 to 40) ahead of which it is." */
    private static void yearsFromFirstToLast() {
        LuckLinks x = Check.withPlayers(2);
        Check.day(x, 0, 0, 10, 20);
        CHECK.due(23, "ahead of all of them", x.years(0), 40);
        CHECK.due(23, "never", x.years(1), 0);
        LuckLinks last = Check.withPlayers(2);
        Check.day(last, 39, 0, 10, 20);
        CHECK.due(23, "ahead of week 40 alone", last.years(0), 1);
        LuckLinks first = Check.withPlayers(2);
        Check.day(first, 0, 0, 10, 20);
        Check.day(first, 1, 0, 50, 10);
        CHECK.due(23, "ahead of week 1 alone", first.years(0), 1);
        CHECK.due(23, "ahead of weeks 2 to 40", first.years(1), 39);
    }

    /** A row that is broken begins anew; the longest one counts, not all together. */
    private static void yearsBroken() {
        LuckLinks x = Check.withPlayers(2);
        Check.day(x, 0, 0, 10, 20);
        Check.day(x, 3, 0, 50, 10);
        Check.day(x, 6, 0, 0, 99);
        Check.day(x, 10, 0, 99, 0);
        // 0 ahead of weeks 1 to 3, 1 of 4 to 6, 0 of 7 to 10, 1 of 11 on.
        CHECK.due(23, "4 and not 7", x.years(0), 4);
        CHECK.due(23, "30 and not 33", x.years(1), 30);
        // Weeks ahead of which there is none break a row, too.
        LuckLinks y = Check.withPlayers(1);
        Check.day(y, 0, 0, 10);
        Check.law(y, "weigh 10 0;weigh 20 1;weigh 25 0;");
        CHECK.due(23, "1 to 9, 20 to 24", y.years(0), 9);
    }

    private static void oddsAsked() {
        LuckLinks x = Check.withPlayers(3);
        Check.law(x, "luck tee 1;");
        CHECK.range(24, "odds of a player", p -> x.odds(p, 7, 0), 0, 2, -1);
        CHECK.range(24, "odds ahead of a week", week -> x.odds(0, 7, week), 0, 40, -1);
        int[] far = {31, 32, 33, 64};
        for (int player : far) {
            CHECK.due(24, "odds of player " + player, x.odds(player, 7, 0), -1);
        }
    }

    /** "NONE: none such (it isn't of it)." */
    private static void oddsOfFields() {
        LuckLinks x = Check.withPlayers(3);
        int[] wrong = {0, 2, 4, 6, 8, 9, 15, 1 << 20 | 1, -1, Integer.MIN_VALUE, Integer.MIN_VALUE + 1, Integer.MAX_VALUE};
        for (int field : wrong) {
            CHECK.due(24, "odds of 0 in field " + field, x.odds(0, field, 0), -1);
        }
        int[] right = {1, 3, 5, 7};
        for (int field : right) {
            CHECK.due(24, "odds of 0 in field " + field, x.odds(0, field, 0) >= 0, true);
        }
        LuckLinks full = Check.withPlayers(20);
        CHECK.due(24, "the last of twenty, alone", full.odds(19, 1 << 19, 0), 1000000);
        CHECK.due(24, "the last of twenty", full.odds(19, 0xfffff, 0), 0);
        CHECK.due(24, "and a 21st", full.odds(19, 0x1fffff, 0), -1);
    }

    /** "their ways times 1,000,000 by all ways (cut)"; "(by 1,000,000, cut each time)". */
    private static void oddsCut() {
        LuckLinks x = Check.withPlayers(4);
        Check.law(x, "luck tee 3;");
        // The lot: 142857 seven times; above by 6, 5, 4, 3, 2, 1, 0 of them.
        CHECK.due(24, "alone", x.odds(0, 1, 0), 999999);
        int[] want = new int[2];
        for (int others = 6; others >= 0; others--) {
            long one = 142857L * (others * 142857) / 1000000;
            want[0] += one;
            want[1] += one * (others * 142857) / 1000000;
        }
        CHECK.due(24, "beside one", x.odds(0, 3, 0), want[0]);
        CHECK.due(24, "beside two", x.odds(3, 11, 0), want[1]);
    }

    /** "SKILL by NONE in whole strokes (cut; 0 without)". */
    private static void oddsBySkillCut() {
        LuckLinks x = Check.withPlayers(4);
        Check.day(x, 0, 0, 50, 53, -1, -1);
        Check.day(x, 1, 0, -1, -1, 50, 52);
        // -3/2 and 3/2 are -1 and 1, -1 and 1 are that; two apart each, so alike beside one without.
        CHECK.due(24, "-1 is less than 1", x.odds(0, 3, 2), 1000000);
        CHECK.due(24, "1 is more than -1", x.odds(1, 3, 2), 0);
        CHECK.due(24, "-3/2 is no less than -1", x.odds(0, 5, 2), 0);
        CHECK.due(24, "-1 is no less than -3/2", x.odds(2, 5, 2), 0);
        CHECK.due(24, "3/2 is no more than 1", x.odds(3, 10, 2), 0);
        CHECK.due(24, "-1 is less than one without", x.odds(0, 5, 1), 1000000);
        CHECK.due(24, "1 is more than one without", x.odds(2, 6, 1), 1000000);
        CHECK.due(24, "none has one ahead of week 0", x.odds(0, 15, 0), 0);
        LuckLinks half = Check.withPlayers(3);
        Check.day(half, 0, 0, 50, 51, -1);
        // -1/2 and 1/2 are both 0.
        CHECK.due(24, "-1/2 is no less than 1/2", half.odds(0, 3, 1), 0);
        CHECK.due(24, "-1/2 is no less than none", half.odds(0, 5, 1), 0);
    }

    private static void oddsWithoutLuck() {
        LuckLinks x = Check.withPlayers(2);
        CHECK.due(24, "alone", x.odds(0, 1, 0), 1000000);
        CHECK.due(24, "alike is not above", x.odds(0, 3, 0), 0);
        Check.day(x, 0, 0, 50, 52);
        CHECK.due(24, "the better one", x.odds(0, 3, 1), 1000000);
        CHECK.due(24, "the other one", x.odds(1, 3, 1), 0);
    }

    /** The widest lot, and skills farther apart than it reaches. */
    private static void oddsOfTheMost() {
        LuckLinks x = Check.withPlayers(20);
        Check.law(x, "luck tee 9;luck long 9;luck short 9;luck last 9;");
        long[] lot = widestLot();
        CHECK.due(24, "alone", x.odds(0, 1, 0), lost(lot, Integer.MIN_VALUE));
        CHECK.due(24, "two alike", x.odds(0, 3, 0), won(lot, 0));
        x.round(0, 0, 0, 0);
        x.round(1, 0, 0, 99999999);
        CHECK.due(24, "396 ahead", x.odds(0, 3, 1), won(lot, 396));
        CHECK.due(24, "396 behind", x.odds(1, 3, 1), 0);
        // 72 apart the greatest sum of the one is alike with the least of the other.
        int[] apart = {2, 34, 36, 70, 72, 74, 98};
        for (int strokes : apart) {
            LuckLinks y = Check.withPlayers(2);
            Check.law(y, "luck tee 9;luck long 9;luck short 9;luck last 9;");
            Check.day(y, 0, 0, 0, strokes);
            CHECK.due(24, strokes + " ahead", y.odds(0, 3, 1), won(lot, strokes));
            CHECK.due(24, strokes + " behind", y.odds(1, 3, 1), won(lot, -strokes));
        }
    }

    /** The sum 36 less than nothing first. */
    private static long[] widestLot() {
        long[] lot = new long[73];
        for (int i = 0; i < 19 * 19 * 19 * 19; i++) {
            lot[i % 19 + i / 19 % 19 + i / 361 % 19 + i / 6859]++;
        }
        for (int i = 0; i < lot.length; i++) {
            lot[i] = lot[i] * 1000000 / (19 * 19 * 19 * 19);
        }
        return lot;
    }

    /** The lot of all places above one. */
    private static long lost(long[] lot, int place) {
        long together = 0;
        for (int i = 0; i < lot.length; i++) {
            together += i > place ? lot[i] : 0;
        }
        return together;
    }

    /** The odds of one so many strokes ahead of the other. */
    private static long won(long[] lot, int ahead) {
        long together = 0;
        for (int i = 0; i < lot.length; i++) {
            together += lot[i] * lost(lot, i - ahead) / 1000000;
        }
        return together;
    }

    private static void needsAsked() {
        LuckLinks x = new LuckLinks();
        CHECK.range(25, "need of d", d -> x.need(d, 100), 1, 40, -1);
        CHECK.range(25, "need of a part", part -> x.need(1, part), 1, 100, -1);
        // With luck he who isn't better has the lesser sum at times, too.
        Check.law(x, "luck tee 9;");
        CHECK.range(25, "need of d with luck", d -> x.need(d, 1), 1, 40, -1);
    }

    /** "by at least so many hundredths". */
    private static void needsAtLeast() {
        LuckLinks x = new LuckLinks();
        Check.law(x, "luck tee 2;");
        // One round's difference: 40000 times 1, 2, 3, 4, 5, 4, 3, 2, 1: less than 1 in just 600,000 of a million.
        CHECK.due(25, "just 60", x.need(1, 60), 1);
        CHECK.due(25, "61", x.need(1, 61), 2);
        CHECK.due(25, "just 76", x.need(2, 76), 1);
        CHECK.due(25, "77", x.need(2, 77), 2);
        CHECK.due(25, "just 100", x.need(5, 100), 1);
        CHECK.due(25, "just 96", x.need(4, 96), 1);
        CHECK.due(25, "97", x.need(4, 97), 2);
        CHECK.due(25, "never all of them", x.need(4, 100), -1);
        Check.law(x, "");
        CHECK.due(25, "no luck: all at once", x.need(1, 100), 1);
        Check.law(x, "luck tee 3;luck last 2;");
        CHECK.due(25, "just 900,000 after 24 rounds", x.need(1, 90), 24);
        Check.law(x, "luck tee 5;luck last 4;");
        CHECK.due(25, "819,999 after 8 rounds", x.need(2, 82), 9);
        Check.law(x, "luck tee 9;luck last 6;");
        CHECK.due(25, "729,999 after 12 rounds", x.need(2, 73), 13);
    }

    /** "(each product by 1,000,000, cut)", with the widest lot, too. */
    private static void needsOfTheMost() {
        LuckLinks x = new LuckLinks();
        Check.law(x, "luck tee 9;luck long 9;luck short 9;luck last 9;");
        int[] parts = {1, 51, 55, 60, 62, 63, 64, 75, 85, 95, 98, 99, 100};
        for (int part : parts) {
            for (int d = 1; d <= 4; d++) {
                CHECK.due(25, "need(" + d + ", " + part + ")", x.need(d, part), needOf(widestLot(), d, part));
            }
            CHECK.due(25, "need(40, " + part + ")", x.need(40, part), needOf(widestLot(), 40, part));
        }
        // The farthest differences decide: what is 102 strokes apart and more.
        Check.law(x, "luck tee 6;luck long 5;luck short 1;");
        CHECK.due(25, "need(1, 70)", x.need(1, 70), 27);
        Check.law(x, "luck tee 7;luck long 2;luck short 2;");
        CHECK.due(25, "need(1, 71)", x.need(1, 71), 23);
    }

    /** All differences one by one, without any short cut. */
    private static int needOf(long[] lot, int d, int part) {
        long[] step = new long[2 * lot.length - 1];
        for (int a = 0; a < lot.length; a++) {
            for (int b = 0; b < lot.length; b++) {
                step[lot.length - 1 + a - b] += lot[a] * lot[b] / 1000000;
            }
        }
        long[] gap = step;
        for (int rounds = 1; rounds <= 30; rounds++) {
            long lesser = 0;
            for (int i = 0; i < gap.length; i++) {
                lesser += i - gap.length / 2 > -rounds * d ? gap[i] : 0;
            }
            if (lesser >= part * 10000L) {
                return rounds;
            }
            long[] next = new long[gap.length + step.length - 1];
            for (int i = 0; i < gap.length; i++) {
                for (int one = 0; one < step.length && gap[i] > 0; one++) {
                    next[i + one] += gap[i] * step[one] / 1000000;
                }
            }
            gap = next;
        }
        return -1;
    }

    /** "has the lesser sum": alike isn't lesser. */
    private static void needsLesserSum() {
        LuckLinks x = new LuckLinks();
        Check.law(x, "luck tee 2;");
        // Less than 3 in 880,000, less than 4 in 960,000: with 4 the sums are alike at times.
        CHECK.due(25, "d 3", x.need(3, 88), 1);
        CHECK.due(25, "d 3", x.need(3, 89), 2);
        Check.law(x, "luck tee 9;luck long 9;luck short 9;luck last 9;");
        CHECK.due(25, "d 1, the widest lot", x.need(1, 50), 1);
        CHECK.due(25, "never all of it", x.need(40, 100), -1);
    }

    /** "the least number of ROUNDS, up to 30"; "NONE: not by 30". */
    private static void needsUpToThirty() {
        // The luck of the tee and the last part, hundredths, and after how many rounds it would be.
        int[][] cases = {{5, 1, 84, 29}, {5, 2, 82, 29}, {2, 0, 99, 30}, {4, 2, 87, 30}, {6, 0, 81, 30}, {6, 2, 78, 30},
            {3, 0, 96, 31}, {4, 0, 91, 31}, {5, 0, 86, 31}, {6, 1, 80, 31}, {7, 2, 74, 32}};
        LuckLinks x = new LuckLinks();
        for (int[] one : cases) {
            Check.law(x, "luck tee " + one[0] + ";luck last " + one[1] + ";");
            CHECK.due(25, "need(1, " + one[2] + ")", x.need(1, one[2]), one[3] <= 30 ? one[3] : -1);
        }
    }

    /** "(from ahead of half, which isn't behind to)". "NONE: none such." */
    private static void lastsAsked() {
        LuckLinks x = Check.withPlayers(2);
        CHECK.range(26, "lasts of a part", part -> x.lasts(part, 0, 1, 39, 2), -1, 3, -1);
        CHECK.range(26, "lasts from a week", from -> x.lasts(0, from, 20, 39, 2), 0, 19, -1);
        CHECK.range(26, "lasts halved ahead of a week", half -> x.lasts(0, 5, half, 30, 2), 6, 30, -1);
        CHECK.range(26, "lasts to a week", to -> x.lasts(0, 5, 20, to, 2), 20, 39, -1);
        CHECK.range(26, "lasts, what", what -> x.lasts(0, 0, 1, 39, what), 0, 2, -1);
        CHECK.due(26, "the first two weeks", x.lasts(0, 0, 1, 1, 2), 0);
        CHECK.due(26, "the last two weeks", x.lasts(0, 38, 39, 39, 2), 0);
        CHECK.due(26, "one week has no halves", x.lasts(0, 7, 7, 7, 2), -1);
        CHECK.due(26, "halved behind the last week", x.lasts(0, 38, 40, 39, 2), -1);
    }

    /** The week ahead of which it is halved is of the later half; weeks outside are of none. */
    private static void lastsOfHalves() {
        LuckLinks x = Check.withPlayers(2);
        Check.day(x, 5, 0, 10, 11);
        Check.day(x, 6, 0, 11, 10);
        int[][] weeks = {{5, 6, 6, 2}, {4, 6, 6, 2}, {5, 6, 7, 2}, {4, 5, 6, 0}, {5, 7, 7, 0}, {6, 7, 8, 0}, {4, 5, 5, 0}, {0, 6, 39, 2}};
        for (int[] w : weeks) {
            CHECK.due(26, "players of both halves of " + w[0] + ", " + w[1] + ", " + w[2], x.lasts(-1, w[0], w[1], w[2], 2), w[3]);
            CHECK.due(26, "unlike", x.lasts(-1, w[0], w[1], w[2], 1), w[3] / 2);
            CHECK.due(26, "alike", x.lasts(-1, w[0], w[1], w[2], 0), 0);
        }
        x.player(0, 0, 0, 0);
        x.round(2, 5, 0, 50);
        CHECK.due(26, "one of the first half alone", x.lasts(-1, 5, 6, 6, 2), 2);
        x.round(2, 6, 0, 50);
        CHECK.due(26, "and of the later one", x.lasts(-1, 5, 6, 6, 2), 3);
    }

    /** Those alike in a half are in no order: neither alike nor unlike. */
    private static void lastsOfThoseAlike() {
        LuckLinks x = Check.withPlayers(3);
        Check.day(x, 0, 0, 10, 10, 12);
        Check.day(x, 1, 0, 10, 11, 11);
        int[] want = {1, 0, 3};
        LuckLinks one = Check.withPlayers(1);
        Check.day(one, 0, 0, 10);
        Check.day(one, 1, 0, 10);
        int[] alone = {0, 0, 1};
        // Means count, not sums: two rounds of -1 and one of -1 are alike.
        LuckLinks means = Check.withPlayers(4);
        Check.day(means, 0, 0, 10, 10, 12, 12);
        Check.day(means, 0, 1, 10, -1, 12, -1);
        Check.day(means, 1, 0, 10, 11, 12, 13);
        int[] four = {4, 0, 4};
        for (int what = 0; what < 3; what++) {
            CHECK.due(26, "0 and 2 alone are in order in both", x.lasts(-1, 0, 1, 1, what), want[what]);
            CHECK.due(26, "one alone", one.lasts(-1, 0, 1, 1, what), alone[what]);
            CHECK.due(26, "by means", means.lasts(-1, 0, 1, 1, what), four[what]);
        }
    }

    private static void mostAsked() {
        LuckLinks x = new LuckLinks();
        CHECK.range(27, "most from a week", from -> x.most(from, 20, 39), 0, 19, -1);
        CHECK.range(27, "most halved ahead of a week", half -> x.most(5, half, 30), 6, 30, -1);
        CHECK.range(27, "most to a week", to -> x.most(5, 20, to), 20, 39, -1);
    }

    /** "The PART with the most alike less unlike (of several the least)." */
    private static void mostOfSeveral() {
        int[] units = {1, 100, 10000, 1000000};
        for (int part = 0; part < 4; part++) {
            LuckLinks x = Check.withPlayers(2);
            x.round(0, 0, 0, 0);
            x.round(1, 0, 0, 1010101);
            x.round(0, 1, 0, 1010101 - units[part]);
            x.round(1, 1, 0, units[part]);
            CHECK.due(27, "one part alike, the others unlike", x.most(0, 1, 1), part);
            LuckLinks y = Check.withPlayers(2);
            y.round(0, 0, 0, 0);
            y.round(1, 0, 0, 1010101);
            y.round(0, 1, 0, units[part]);
            y.round(1, 1, 0, 1010101 - units[part]);
            CHECK.due(27, "one part unlike, the others alike", y.most(0, 1, 1), part == 0 ? 1 : 0);
        }
        LuckLinks unlike = Check.withPlayers(2);
        unlike.round(0, 0, 0, 0);
        unlike.round(1, 0, 0, 1010101);
        unlike.round(0, 1, 0, 1010101);
        unlike.round(1, 1, 0, 0);
        CHECK.due(27, "all unlike: the least", unlike.most(0, 1, 1), 0);
        for (int part = 0; part < 4; part++) {
            // One part alike on each day counts 0, the others -1.
            LuckLinks x = Check.withPlayers(2);
            x.round(0, 0, 0, 0);
            x.round(1, 0, 0, 1010101 - units[part]);
            x.round(0, 1, 0, 1010101 - units[part]);
            x.round(1, 1, 0, 0);
            CHECK.due(27, "one part without order, the others unlike", x.most(0, 1, 1), part);
            LuckLinks z = Check.withPlayers(2);
            z.round(0, 0, 0, 0);
            z.round(1, 0, 0, units[part]);
            z.round(0, 1, 0, units[part]);
            z.round(1, 1, 0, 0);
            CHECK.due(27, "one part unlike, the others without order", z.most(0, 1, 1), part == 0 ? 1 : 0);
        }
        CHECK.due(27, "nobody: the least", Check.withPlayers(2).most(0, 1, 1), 0);
    }

    private static void rightAsked() {
        LuckLinks x = Check.withPlayers(2);
        for (int day = 0; day < 4; day++) {
            Check.day(x, 0, day, 10, 11);
            Check.day(x, 39, day, 10, 11);
        }
        CHECK.range(28, "right in a week", week -> x.right(week, 2, 0), 0, 39, -1);
        CHECK.range(28, "right of a day", day -> x.right(0, day, 0), 2, 3, -1);
        CHECK.range(28, "right, what", what -> x.right(0, 2, what), 0, 1, -1);
        CHECK.due(28, "a week without rounds", x.right(1, 2, 0), -1);
    }

    /** "(none without others)". */
    private static void rightWithoutOthers() {
        LuckLinks x = Check.withPlayers(2);
        Check.day(x, 0, 0, 10, 12);
        CHECK.due(28, "day 0 alone", x.right(0, 2, 0), -1);
        Check.day(x, 0, 1, 10, 12);
        CHECK.due(28, "days 0 and 1", x.right(0, 2, 0), -1);
        CHECK.due(28, "days 0 and 1", x.right(0, 2, 1), -1);
        Check.day(x, 0, 2, 20, -1);
        // 10 above: 20 and 22.
        CHECK.due(28, "one on day 2", x.right(0, 2, 0), 21);
        CHECK.due(28, "in lowest terms", x.right(0, 2, 1), 1);
        CHECK.due(28, "none on day 3", x.right(0, 3, 0), -1);
        Check.day(x, 0, 3, 11, -1);
        CHECK.due(28, "one on day 3: 11 and 13", x.right(0, 3, 0), 12);
    }

    private static void rightWithoutMissing() {
        LuckLinks x = Check.withPlayers(2);
        for (int day = 0; day < 3; day++) {
            Check.day(x, 0, day, 10 * day, 11 * day);
        }
        CHECK.due(28, "all are there: 41 by 2", x.right(0, 2, 0), 21);
        CHECK.due(28, "42 by 2", x.right(0, 2, 1), 1);
        LuckLinks one = Check.withPlayers(1);
        for (int day = 0; day < 4; day++) {
            Check.day(one, 0, day, 0);
        }
        CHECK.due(28, "no strokes", one.right(0, 3, 0), 0);
        CHECK.due(28, "in lowest terms", one.right(0, 3, 1), 1);
    }

    /** "all who played DAYS 0 and 1": those of day 0 alone don't count. */
    private static void rightOfThoseOfBothDays() {
        LuckLinks x = Check.withPlayers(4);
        Check.day(x, 0, 0, 10, 10, 99, -1);
        Check.day(x, 0, 1, 10, 11, -1, -1);
        Check.day(x, 0, 2, 12, -1, -1, -1);
        // 2 above: 12 and 25/2.
        CHECK.due(28, "49 by 4", x.right(0, 2, 0), 49);
        CHECK.due(28, "49 by 4", x.right(0, 2, 1), 4);
    }

    private static void heldAsked() {
        LuckLinks x = new LuckLinks();
        CHECK.range(31, "held in a week", week -> x.held(week, 0), 0, 39, -1);
        CHECK.range(31, "held, what", what -> x.held(0, what), 0, 4, -1);
    }

    private static void held(LuckLinks x, int week, int... want) {
        for (int what = 0; what < 5; what++) {
            CHECK.due(31, "held(" + week + ", " + what + ")", x.held(week, what), want[what]);
        }
    }

    /** "SKILL ahead of it (likewise; 0 without), a BET (told; 0 without), as last .. (0 without)". */
    private static void heldWithout() {
        LuckLinks x = Check.withPlayers(3);
        x.bet(0, 0, 500);
        held(x, 0, 0, 0, 0, 0, 0);
        Check.day(x, 0, 0, 10, 12, -1);
        // 1 above and below; 6 from the bet, 1 from none.
        held(x, 0, 200, 700, 200, 200, 2);
        x.bet(2, 0, 9999);
        held(x, 0, 200, 700, 200, 200, 2);
        Check.day(x, 1, 0, 10, -1, 12);
        // 0 has a skill of -1 and was -1 last; 2 has none.
        held(x, 1, 100, 200, 100, 200, 2);
        Check.law(x, "weigh 0 0;");
        held(x, 1, 200, 200, 100, 200, 2);
        x.bet(0, 1, -100);
        held(x, 1, 200, 100, 100, 200, 2);
        x.bet(0, 1, -101);
        held(x, 1, 200, 101, 100, 200, 2);
    }

    /** "(in hundredths, cut)": OFF and what was foretold each by itself, below 0, too. */
    private static void heldCut() {
        LuckLinks x = Check.withPlayers(3);
        Check.day(x, 0, 0, 10, 11, 11);
        held(x, 0, 66 + 33 + 33, 132, 132, 132, 3);
        Check.day(x, 1, 0, 11, 10, 10);
        // OFF 66, -33, -33; foretold -66, 33, 33.
        held(x, 1, 132 + 66 + 66, 132, 264, 132, 3);
    }

    /** "the mean OFF of its latest WEEK ahead": all its rounds there, however long ago it is. */
    private static void heldByTheLatestWeek() {
        LuckLinks x = Check.withPlayers(2);
        Check.day(x, 0, 0, 10, 12);
        Check.day(x, 0, 1, 10, 18);
        Check.day(x, 39, 0, 10, 10);
        // OFF 0; last: -1 and -4: -5/2.
        CHECK.due(31, "as last, of week 0", x.held(39, 2), 500);
        Check.day(x, 38, 0, 10, 16);
        CHECK.due(31, "as last, of week 38", x.held(39, 2), 600);
        CHECK.due(31, "week 39 isn't ahead of itself", x.held(39, 3), 0);
        CHECK.due(31, "as last, of week 0", x.held(38, 2), 50 + 50);
        CHECK.due(31, "none ahead of week 0", x.held(0, 2), 200);
    }
}
