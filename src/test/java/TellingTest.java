/** What is told and counted: promises 1 to 7, 13, 14 and 37 to 39. */
public final class TellingTest {
    private static final Check CHECK = new Check();

    private TellingTest() {
    }

    public static void main(String[] args) {
        newObject();
        players();
        courses();
        weeks();
        rounds();
        roundsRoom();
        roundsToTheLast();
        bets();
        seeds();
        giftsAndScores();
        images();
        imageHolds();
        counts();
        CHECK.end("TellingTest");
    }

    private static void newObject() {
        LuckLinks x = new LuckLinks();
        for (int what = 0; what <= 7; what++) {
            CHECK.due(1, "count(" + what + ")", x.count(what), 0);
        }
        for (int week = 0; week < 40; week++) {
            CHECK.due(1, "count(10 + week)", x.count(10 + week), -1);
        }
        CHECK.due(1, "fault()", x.fault(), -1);
        CHECK.due(1, "rule(200)", x.rule(200), 0);
        CHECK.due(1, "best(40)", x.best(40), -1);
        CHECK.due(1, "other(0)", x.other(0), -1);
        CHECK.due(1, "listed(0, 39, 0)", x.listed(0, 39, 0), -1);
        CHECK.due(1, "NONE", LuckLinks.NONE, -1);
    }

    private static void players() {
        LuckLinks x = new LuckLinks();
        int[][] wrong = {{21, 0, 0, 0}, {0, -21, 0, 0}, {0, 0, 21, 0}, {0, 0, 0, -21}, {Integer.MIN_VALUE, 0, 0, 0}};
        for (int[] g : wrong) {
            CHECK.due(2, "player, not as told", x.player(g[0], g[1], g[2], g[3]), -1);
        }
        CHECK.due(2, "count(5)", x.count(5), 5);
        CHECK.due(2, "count(0)", x.count(0), 0);
        CHECK.due(2, "player(20, -20, 20, -20)", x.player(20, -20, 20, -20), 0);
        CHECK.due(2, "gift(0, 1)", x.gift(0, 1), -20);
        for (int i = 1; i < 20; i++) {
            CHECK.due(2, "player", x.player(i, 0, 0, -i), i);
        }
        CHECK.due(2, "the 21st player", x.player(0, 0, 0, 0), -1);
        CHECK.due(2, "the 21st player, not as told", x.player(0, 0, 0, 21), -1);
        CHECK.due(2, "count(0)", x.count(0), 20);
        CHECK.due(2, "count(5)", x.count(5), 6);
        CHECK.due(2, "count(6)", x.count(6), 1);
    }

    private static void courses() {
        LuckLinks x = new LuckLinks();
        int[][] wrong = {{61, 0, 0, 0}, {0, -1, 0, 0}, {0, 0, 61, 0}, {0, 0, 0, -1}};
        for (int[] c : wrong) {
            CHECK.due(3, "course, not as told", x.course(c[0], c[1], c[2], c[3]), -1);
        }
        CHECK.due(3, "count(5)", x.count(5), 4);
        for (int i = 0; i < 6; i++) {
            CHECK.due(3, "course", x.course(0, 60, i, 60 - i), i);
        }
        CHECK.due(3, "the 7th course", x.course(0, 0, 0, 0), -1);
        CHECK.due(3, "the 7th course, not as told", x.course(0, 0, 0, 61), -1);
        CHECK.due(3, "count(1)", x.count(1), 6);
        CHECK.due(3, "count(5)", x.count(5), 5);
        CHECK.due(3, "count(6)", x.count(6), 1);
    }

    private static void weeks() {
        LuckLinks x = new LuckLinks();
        CHECK.due(4, "week(0, 0) without a course", x.week(0, 0), false);
        x.course(1, 2, 3, 4);
        x.course(5, 6, 7, 8);
        CHECK.due(4, "week(-1, 0)", x.week(-1, 0), false);
        CHECK.due(4, "week(40, 0)", x.week(40, 0), false);
        CHECK.due(4, "week(0, 2)", x.week(0, 2), false);
        CHECK.due(4, "week(0, -1)", x.week(0, -1), false);
        CHECK.due(4, "count(5)", x.count(5), 5);
        CHECK.due(4, "week(39, 1)", x.week(39, 1), true);
        CHECK.due(4, "week(0, 0)", x.week(0, 0), true);
        CHECK.due(4, "week(39, 0) again", x.week(39, 0), false);
        CHECK.due(4, "count(49)", x.count(49), 1);
        CHECK.due(4, "count(10)", x.count(10), 0);
        CHECK.due(4, "count(11)", x.count(11), -1);
        CHECK.due(4, "count(5)", x.count(5), 6);
        CHECK.due(4, "count(6)", x.count(6), 0);
    }

    private static void rounds() {
        LuckLinks x = new LuckLinks();
        x.player(0, 0, 0, 0);
        x.course(1, 2, 3, 4);
        CHECK.due(5, "round in a week without a course", x.round(0, 3, 0, 0), -1);
        x.week(3, 0);
        CHECK.due(5, "round of no player", x.round(1, 3, 0, 0), -1);
        CHECK.due(5, "round of player -1", x.round(-1, 3, 0, 0), -1);
        CHECK.due(5, "round in week -1", x.round(0, -1, 0, 0), -1);
        CHECK.due(5, "round in week 40", x.round(0, 40, 0, 0), -1);
        CHECK.due(5, "round at time -1", x.round(0, 3, -1, 0), -1);
        CHECK.due(5, "round at time 48", x.round(0, 3, 48, 0), -1);
        CHECK.due(5, "round in -1 strokes", x.round(0, 3, 0, -1), -1);
        CHECK.due(5, "round in 100,000,000 strokes", x.round(0, 3, 0, 100000000), -1);
        CHECK.due(5, "round on day 1 first", x.round(0, 3, 12, 0), -1);
        CHECK.due(5, "count(5)", x.count(5), 10);
        CHECK.due(5, "round", x.round(0, 3, 11, 99020301), 0);
        CHECK.due(5, "round again on day 0", x.round(0, 3, 5, 0), -1);
        CHECK.due(5, "round on day 2 ahead of day 1", x.round(0, 3, 24, 0), -1);
        CHECK.due(5, "round on day 1", x.round(0, 3, 12, 99999999), 1);
        CHECK.due(5, "round on day 2", x.round(0, 3, 35, 0), 2);
        CHECK.due(5, "round on day 3", x.round(0, 3, 47, 1), 3);
        CHECK.due(5, "count(2)", x.count(2), 4);
        CHECK.due(5, "tee", x.score(0, 3, 0, 0), 1);
        CHECK.due(5, "long", x.score(0, 3, 0, 1), 3);
        CHECK.due(5, "short", x.score(0, 3, 0, 2), 2);
        CHECK.due(5, "last", x.score(0, 3, 0, 3), 99);
        CHECK.due(5, "hour", x.score(0, 3, 0, 4), 11);
        CHECK.due(5, "hour on day 3", x.score(0, 3, 3, 4), 11);
    }

    private static void roundsRoom() {
        LuckLinks x = new LuckLinks();
        for (int i = 0; i < 20; i++) {
            x.player(0, 0, 0, 0);
        }
        x.course(1, 2, 3, 4);
        for (int week = 0; week < 17; week++) {
            x.week(week, 0);
        }
        for (int week = 0; week < 14; week++) {
            CHECK.due(12, "run", x.run(week, 0xfffff), 80);
        }
        CHECK.due(5, "round", x.round(0, 14, 0, 0), 1120);
        CHECK.due(12, "run that might pass 1,200", x.run(15, 0xfffff), -1);
        CHECK.due(12, "run in a week with a round, in any case", x.run(14, 1), -1);
        CHECK.due(12, "run of as many as there is room for", x.run(15, 0x7ffff), 76);
        CHECK.due(5, "round", x.round(0, 14, 12, 0), 1197);
        CHECK.due(12, "run of one that might pass", x.run(16, 1), -1);
        CHECK.due(5, "round", x.round(0, 14, 24, 0), 1198);
        CHECK.due(5, "round", x.round(0, 14, 36, 0), 1199);
        CHECK.due(5, "the 1,201st round", x.round(1, 14, 0, 0), -1);
        CHECK.due(5, "the 1,201st round, not as told", x.round(1, 14, 12, 0), -1);
        CHECK.due(5, "count(2)", x.count(2), 1200);
        CHECK.due(5, "count(5)", x.count(5), 2);
        CHECK.due(5, "count(6)", x.count(6), 3);
    }

    /** A run that fills the room to the last round is let in. */
    private static void roundsToTheLast() {
        LuckLinks x = new LuckLinks();
        for (int i = 0; i < 20; i++) {
            x.player(0, 0, 0, 0);
        }
        x.course(1, 2, 3, 4);
        for (int week = 0; week < 15; week++) {
            x.week(week, 0);
            CHECK.due(12, "run", x.run(week, 0xfffff), 80);
        }
        CHECK.due(12, "count(2)", x.count(2), 1200);
        x.week(15, 0);
        CHECK.due(12, "run beyond", x.run(15, 1), -1);
        CHECK.due(5, "round beyond", x.round(0, 15, 0, 0), -1);
        CHECK.due(5, "count(6)", x.count(6), 2);
        CHECK.due(5, "count(5)", x.count(5), 0);
    }

    private static void bets() {
        LuckLinks x = new LuckLinks();
        x.player(0, 0, 0, 0);
        CHECK.due(6, "bet of no player", x.bet(1, 0, 0), false);
        CHECK.due(6, "bet of player -1", x.bet(-1, 0, 0), false);
        CHECK.due(6, "bet in week 40", x.bet(0, 40, 0), false);
        CHECK.due(6, "bet in week -1", x.bet(0, -1, 0), false);
        CHECK.due(6, "bet of 10,000", x.bet(0, 0, 10000), false);
        CHECK.due(6, "bet of -10,000", x.bet(0, 0, -10000), false);
        CHECK.due(6, "count(5)", x.count(5), 6);
        CHECK.due(6, "bet of 9,999 ahead of any course", x.bet(0, 0, 9999), true);
        CHECK.due(6, "bet of -9,999", x.bet(0, 39, -9999), true);
        x.course(0, 0, 0, 0);
        x.week(0, 0);
        x.round(0, 0, 0, 10);
        CHECK.due(6, "held(0, 1)", x.held(0, 1), 9999);
        CHECK.due(6, "bet told once more", x.bet(0, 0, -3), true);
        CHECK.due(6, "held(0, 1)", x.held(0, 1), 3);
        CHECK.due(6, "count(5)", x.count(5), 6);
    }

    private static void seeds() {
        LuckLinks x = new LuckLinks();
        x.player(0, 0, 0, 0);
        x.course(50, 50, 50, 50);
        x.week(0, 0);
        x.week(1, 0);
        x.week(2, 0);
        CHECK.due(7, "seed(-1)", x.seed(-1), false);
        CHECK.due(7, "seed(1,000,000,000)", x.seed(1000000000), false);
        CHECK.due(7, "count(5)", x.count(5), 2);
        Check.law(x, "luck tee 9;luck long 9;luck short 9;luck last 9;");
        CHECK.due(7, "seed(999,999,999)", x.seed(999999999), true);
        x.run(0, 1);
        CHECK.due(7, "seed(999,999,999)", x.seed(999999999), true);
        x.run(1, 1);
        CHECK.due(7, "seed(0)", x.seed(0), true);
        x.run(2, 1);
        boolean isOther = false;
        for (int day = 0; day < 4; day++) {
            for (int part = 0; part < 4; part++) {
                CHECK.due(7, "the same draws by the same seed", x.score(0, 1, day, part), x.score(0, 0, day, part));
                isOther |= x.score(0, 2, day, part) != x.score(0, 0, day, part);
            }
        }
        CHECK.due(7, "other draws by another seed", isOther, true);
    }

    private static void giftsAndScores() {
        LuckLinks x = new LuckLinks();
        x.player(1, -2, 3, -4);
        int[] gifts = {1, -2, 3, -4};
        for (int part = 0; part < 4; part++) {
            CHECK.due(13, "gift", x.gift(0, part), gifts[part]);
        }
        CHECK.due(13, "gift of no player", x.gift(1, 0), -100);
        CHECK.due(13, "gift of player -1", x.gift(-1, 0), -100);
        CHECK.due(13, "gift by part 4", x.gift(0, 4), -100);
        CHECK.due(13, "gift by NONE", x.gift(0, -1), -100);
        x.course(0, 0, 0, 0);
        x.week(7, 0);
        x.round(0, 7, 6, 4030201);
        CHECK.due(14, "score by NONE", x.score(0, 7, 0, -1), 10);
        CHECK.due(14, "score by 3", x.score(0, 7, 0, 3), 4);
        CHECK.due(14, "score by 4", x.score(0, 7, 0, 4), 6);
        CHECK.due(14, "score by 5", x.score(0, 7, 0, 5), -1);
        CHECK.due(14, "score by -2", x.score(0, 7, 0, -2), -1);
        CHECK.due(14, "score of day 1", x.score(0, 7, 1, 0), -1);
        CHECK.due(14, "score of day 4", x.score(0, 7, 4, 0), -1);
        CHECK.due(14, "score of day -1", x.score(0, 7, -1, 0), -1);
        CHECK.due(14, "score in week 6", x.score(0, 6, 0, 0), -1);
        CHECK.due(14, "score in week 40", x.score(0, 40, 0, 0), -1);
        CHECK.due(14, "score in week -1", x.score(0, -1, 3, 0), -1);
        CHECK.due(14, "score of no player", x.score(1, 7, 0, 0), -1);
        CHECK.due(14, "score of player 20", x.score(20, 7, 0, 0), -1);
        CHECK.due(14, "score of player -1", x.score(-1, 7, 0, 0), -1);
        CHECK.due(14, "count(5): asking is not refused", x.count(5), 0);
    }

    private static void images() {
        LuckLinks x = new LuckLinks();
        CHECK.due(38, "restore(0) without images", x.restore(0), false);
        CHECK.due(37, "image()", x.image(), 0);
        x.player(1, 0, 0, 0);
        CHECK.due(37, "image()", x.image(), 1);
        x.player(2, 0, 0, 0);
        CHECK.due(37, "image()", x.image(), 2);
        CHECK.due(37, "the 4th image", x.image(), -1);
        CHECK.due(37, "count(4)", x.count(4), 3);
        CHECK.due(37, "count(6)", x.count(6), 1);
        CHECK.due(38, "restore(3)", x.restore(3), false);
        CHECK.due(38, "restore(-1)", x.restore(-1), false);
        CHECK.due(38, "count(5)", x.count(5), 3);
        CHECK.due(38, "restore(1)", x.restore(1), true);
        CHECK.due(38, "count(0)", x.count(0), 1);
        CHECK.due(38, "gift(1, 0)", x.gift(1, 0), -100);
        CHECK.due(38, "player", x.player(3, 0, 0, 0), 1);
        CHECK.due(38, "restore(2)", x.restore(2), true);
        CHECK.due(38, "gift(1, 0): the image had stayed as it was", x.gift(1, 0), 2);
        CHECK.due(38, "restore(0)", x.restore(0), true);
        CHECK.due(38, "count(0)", x.count(0), 0);
        CHECK.due(38, "count(4): images stay", x.count(4), 3);
        CHECK.due(38, "count(6): refusals stay", x.count(6), 1);
    }

    /** Once with all that an image holds changed, once with all that it doesn't. */
    private static void imageHolds() {
        LuckLinks x = new LuckLinks();
        x.player(0, 0, 0, 0);
        x.player(0, 0, 0, 0);
        x.course(50, 50, 50, 50);
        x.week(0, 0);
        x.week(1, 0);
        x.round(0, 0, 3, 10);
        x.round(1, 0, 3, 20);
        x.bet(0, 0, 7);
        Check.law(x, "luck tee 9;drift tee 9;");
        x.seed(5);
        x.image();
        x.run(1, 3);
        int drawn = x.score(0, 1, 0, 0);
        int later = x.score(1, 1, 3, 0);
        int gift = x.gift(0, 0);
        x.round(0, 0, 15, 30);
        x.bet(0, 0, 100);
        x.week(2, 0);
        x.course(1, 1, 1, 1);
        x.player(9, 9, 9, 9);
        Check.law(x, "luck tee 9;drift tee 9;points 1 5;");
        x.law(-1);
        Check.law(x, "luck;");
        x.feed(0, 0, 0, 0, 0);
        CHECK.due(38, "restore(0)", x.restore(0), true);
        CHECK.due(38, "players", x.count(0), 2);
        CHECK.due(38, "courses", x.count(1), 1);
        CHECK.due(38, "rounds", x.count(2), 2);
        CHECK.due(38, "week 2", x.count(12), -1);
        CHECK.due(38, "gift", x.gift(0, 0), 0);
        CHECK.due(38, "score on day 1", x.score(0, 0, 1, -1), -1);
        CHECK.due(38, "bet", x.held(0, 1), 507 + 500);
        CHECK.due(38, "the mean of day 1 is new", x.round(0, 0, 15, 40), 2);
        CHECK.due(38, "skill by day 0 and 1", x.skill(0, -1, 1, 0), -5);
        CHECK.due(38, "skill by day 0 and 1", x.skill(0, -1, 1, 1), 2);
        CHECK.due(38, "the law stays", x.rule(61), 5);
        CHECK.due(38, "the tape stays", x.count(3), 20);
        CHECK.due(38, "the fault stays", x.fault(), 4);
        CHECK.due(38, "refused 0 stays", x.count(5), 1);
        CHECK.due(38, "refused 2 stays", x.count(7), 1);
        CHECK.due(38, "run: z is as it was", x.run(1, 3), 8);
        CHECK.due(38, "drawn as before", x.score(0, 1, 0, 0), drawn);
        CHECK.due(38, "drawn as before", x.score(1, 1, 3, 0), later);
        CHECK.due(38, "drifted as before", x.gift(0, 0), gift);
    }

    private static void counts() {
        LuckLinks x = new LuckLinks();
        x.player(0, 0, 0, 0);
        x.player(0, 0, 0, 0);
        x.course(0, 0, 0, 0);
        x.course(0, 0, 0, 0);
        x.course(0, 0, 0, 0);
        x.week(20, 2);
        x.round(1, 20, 0, 0);
        x.feed(0, 0, 0, 0, 0);
        x.feed(0, 0, 0, 0, 0);
        x.image();
        x.seed(-1);
        int[] want = {2, 3, 1, 40, 1, 1, 0, 0, -1, -1};
        for (int what = 0; what < want.length; what++) {
            CHECK.due(39, "count(" + what + ")", x.count(what), want[what]);
        }
        CHECK.due(39, "count(30)", x.count(30), 2);
        CHECK.due(39, "count(50)", x.count(50), -1);
        CHECK.due(39, "count(-1)", x.count(-1), -1);
        CHECK.due(39, "count(least)", x.count(Integer.MIN_VALUE), -1);
        CHECK.due(39, "count(most)", x.count(Integer.MAX_VALUE), -1);
    }
}
