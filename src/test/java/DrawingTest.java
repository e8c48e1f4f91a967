/** A drawn WEEK: promise 12, by draws that are made here once more. */
public final class DrawingTest {
    private static final Check CHECK = new Check();
    private static long z;

    private DrawingTest() {
    }

    public static void main(String[] args) {
        refused();
        draws();
        drawsWithoutRules();
        giftsAreHeld();
        strokesAreHeld();
        orderAndHours();
        hourRules();
        presses();
        lawsOneByOne();
        allCourses();
        behind();
        cuts();
        CHECK.end("DrawingTest");
    }

    private static int draw(int n) {
        z = z * 6364136223846793005L + 1442695040888963407L;
        return (int) ((z >>> 33) % (2 * n + 1)) - n;
    }

    private static LuckLinks withPlayers(int many, int strokes, String law) {
        LuckLinks x = new LuckLinks();
        for (int i = 0; i < many; i++) {
            x.player(0, 0, 0, 0);
        }
        x.course(strokes, strokes, strokes, strokes);
        x.week(0, 0);
        CHECK.due(9, law, Check.law(x, law) >= 0, true);
        return x;
    }

    private static void refused() {
        LuckLinks x = withPlayers(3, 30, "");
        CHECK.due(12, "run(-1, 1)", x.run(-1, 1), -1);
        CHECK.due(12, "run(40, 1)", x.run(40, 1), -1);
        CHECK.due(12, "run(1, 1) without a course", x.run(1, 1), -1);
        CHECK.due(12, "run(0, 0)", x.run(0, 0), -1);
        CHECK.due(12, "run(0, 8)", x.run(0, 8), -1);
        CHECK.due(12, "run(0, -1)", x.run(0, -1), -1);
        CHECK.due(12, "run(0, least)", x.run(0, Integer.MIN_VALUE), -1);
        CHECK.due(12, "count(5)", x.count(5), 7);
        CHECK.due(12, "run(0, 5)", x.run(0, 5), 8);
        CHECK.due(12, "run(0, 2): there are rounds", x.run(0, 2), -1);
        CHECK.due(12, "score of one who isn't of the field", x.score(1, 0, 0, -1), -1);
        CHECK.due(12, "count(2)", x.count(2), 8);
        CHECK.due(12, "count(5)", x.count(5), 8);
        x.week(1, 0);
        x.round(1, 1, 0, 0);
        CHECK.due(12, "run(1, 1): there is a round told", x.run(1, 1), -1);
    }

    /** First all gifts drift, by numbers and parts; then each day by its order, by parts. */
    private static void draws() {
        LuckLinks x = withPlayers(4, 30, "drift tee 1;drift long 2;drift short 3;drift last 4;"
                + "luck tee 5;luck long 6;luck short 7;luck last 8;");
        x.seed(123456789);
        x.image();
        z = 123456789;
        check(x);
        x.restore(0);
        z = 123456789;
        check(x);
        LuckLinks fresh = withPlayers(4, 30, "drift tee 1;drift long 2;drift short 3;drift last 4;"
                + "luck tee 5;luck long 6;luck short 7;luck last 8;");
        z = 1;
        check(fresh);
    }

    private static void check(LuckLinks x) {
        int[] field = {0, 1, 3};
        int[][] gifts = new int[4][4];
        for (int p : field) {
            for (int part = 0; part < 4; part++) {
                gifts[p][part] = draw(part + 1);
            }
        }
        CHECK.due(12, "run", x.run(0, 11), 12);
        int[] sums = new int[4];
        Integer[] order = {0, 1, 3};
        for (int day = 0; day < 4; day++) {
            java.util.Arrays.sort(order, (a, b) -> sums[a] != sums[b] ? sums[b] - sums[a] : a - b);
            for (int place = 0; place < 3; place++) {
                int p = order[place];
                CHECK.due(12, "hour", x.score(p, 0, day, 4), place);
                for (int part = 0; part < 4; part++) {
                    int strokes = 30 + gifts[p][part] + draw(part + 5);
                    CHECK.due(12, "strokes", x.score(p, 0, day, part), strokes);
                }
            }
            for (int p : field) {
                sums[p] += x.score(p, 0, day, -1);
            }
        }
        for (int p : field) {
            for (int part = 0; part < 4; part++) {
                CHECK.due(12, "gift", x.gift(p, part), gifts[p][part]);
            }
        }
        CHECK.due(12, "gift of one who isn't of the field", x.gift(2, 0), 0);
    }

    /** A draw is made for each part, whether or not a rule tells of it. */
    private static void drawsWithoutRules() {
        LuckLinks x = withPlayers(2, 30, "luck last 9;");
        z = 1;
        for (int i = 0; i < 8; i++) {
            draw(0);
        }
        x.run(0, 3);
        for (int p = 0; p < 2; p++) {
            draw(0);
            draw(0);
            draw(0);
            CHECK.due(12, "strokes of the last part", x.score(p, 0, 0, 3), 30 + draw(9));
            CHECK.due(12, "strokes of the first part", x.score(p, 0, 0, 0), 30);
        }
    }

    private static void giftsAreHeld() {
        LuckLinks x = new LuckLinks();
        x.player(20, -20, 20, -20);
        x.course(0, 0, 0, 0);
        Check.law(x, "drift tee 9;drift long 9;drift short 9;drift last 9;");
        int[] gifts = {20, -20, 20, -20};
        boolean isHeld = false;
        z = 77;
        x.seed(77);
        for (int week = 0; week < 40; week++) {
            x.week(week, 0);
            for (int part = 0; part < 4; part++) {
                int wanted = gifts[part] + draw(9);
                gifts[part] = Math.max(-40, Math.min(40, wanted));
                isHeld |= wanted != gifts[part];
            }
            x.run(week, 1);
            for (int i = 0; i < 16; i++) {
                draw(0);
            }
            for (int part = 0; part < 4; part++) {
                CHECK.due(12, "gift", x.gift(0, part), gifts[part]);
                CHECK.due(12, "strokes", x.score(0, week, 2, part), Math.max(0, gifts[part]));
            }
        }
        CHECK.due(12, "some gift was held", isHeld, true);
    }

    private static void strokesAreHeld() {
        LuckLinks x = withPlayers(1, 60, "press tee more 20;press tee more 19;press long more 20;press long more 20;"
                + "press short less 20;press short less 20;press short less 20;press last less 20;press last less 20;"
                + "press last less 20;press last less 1;");
        x.run(0, 1);
        CHECK.due(12, "99", x.score(0, 0, 0, 0), 99);
        CHECK.due(12, "100 held to 99", x.score(0, 0, 0, 1), 99);
        CHECK.due(12, "0", x.score(0, 0, 0, 2), 0);
        CHECK.due(12, "-1 held to 0", x.score(0, 0, 0, 3), 0);
    }

    private static void orderAndHours() {
        LuckLinks x = new LuckLinks();
        for (int i = 0; i < 15; i++) {
            x.player(i == 3 ? 5 : i == 7 ? -5 : 0, 0, 0, 0);
        }
        x.course(30, 30, 30, 30);
        x.week(0, 0);
        x.run(0, 0x7fff);
        for (int p = 0; p < 15; p++) {
            CHECK.due(12, "hour on day 0", x.score(p, 0, 0, 4), p % 12);
        }
        // 3 has the greatest sum and goes first, 7 the least and goes last; the others by numbers.
        int[] order = {3, 0, 1, 2, 4, 5, 6, 8, 9, 10, 11, 12, 13, 14, 7};
        for (int day = 1; day < 4; day++) {
            for (int place = 0; place < 15; place++) {
                CHECK.due(12, "hour on day " + day, x.score(order[place], 0, day, 4), place % 12);
            }
        }
    }

    private static void hourRules() {
        LuckLinks x = withPlayers(14, 30, "hour tee 2 from 3;hour tee 5 from 11;hour last 1 from 0;hour tee 0 from 0;");
        x.run(0, 0x3fff);
        for (int p = 0; p < 14; p++) {
            int hour = p % 12;
            CHECK.due(12, "tee at " + hour, x.score(p, 0, 0, 0), 30 + (hour >= 3 ? 2 : 0) + (hour >= 11 ? 5 : 0));
            CHECK.due(12, "long at " + hour, x.score(p, 0, 0, 1), 30);
            CHECK.due(12, "last at " + hour, x.score(p, 0, 0, 3), 31);
        }
    }

    /** What a "press" on the tee adds to one of 14 on a day in week 7 on course 1. */
    private static void press(String condition, int player, int day, boolean isHeld) {
        LuckLinks x = new LuckLinks();
        for (int i = 0; i < 14; i++) {
            x.player(0, 0, 0, 0);
        }
        x.course(0, 0, 0, 0);
        x.course(30, 30, 30, 30);
        x.week(7, 1);
        Check.law(x, "press tee more 3 if " + condition + ";press long less 4 if " + condition + ";");
        CHECK.due(9, condition, x.fault(), -1);
        x.run(7, 0x3fff);
        // All have the same sum, or the same pressed ones a greater one: on day 0 all is by numbers.
        CHECK.due(12, condition + " of " + player, x.score(player, 7, day, 0), isHeld ? 33 : 30);
        CHECK.due(12, condition + " of " + player, x.score(player, 7, day, 1), isHeld ? 26 : 30);
        CHECK.due(12, condition + " of " + player, x.score(player, 7, day, 2), 30);
    }

    private static void presses() {
        press("day=0", 0, 0, true);
        press("day=0", 0, 1, false);
        press("day>1", 5, 2, true);
        press("day>1", 5, 1, false);
        press("day<3", 5, 2, true);
        press("day<3", 5, 3, false);
        press("hour=1 and day=0", 13, 0, true);
        press("hour=1 and day=0", 12, 0, false);
        press("order=13 and day=0", 13, 0, true);
        press("order=1 and day=0", 13, 0, false);
        press("order=0 and day=0", 0, 0, true);
        press("week=7", 3, 0, true);
        press("week<7", 3, 0, false);
        press("course=1", 3, 0, true);
        press("course>1", 3, 0, false);
        press("behind=0", 3, 0, true);
        press("behind>0", 3, 0, false);
        press("day=0 or day=1 and hour=99", 3, 0, true);
        press("day=1 and hour=99 or day=0", 3, 0, true);
        press("(day=0 or day=1) and hour=99", 3, 0, false);
        press("hour=99 and day=0 or day=0 and hour=99 or day=0 and hour=3", 3, 0, true);
        press("not day=0", 3, 0, false);
        press("not not day=0", 3, 0, true);
        press("not day=1 and hour=99", 3, 0, false);
        press("not (day=1 and hour=99)", 3, 0, true);
        press("not (day=0 or hour=99)", 3, 0, false);
        press("not day=1 or hour=99", 3, 0, true);
        press("day=0 and (hour=2 or hour=3 and (order=9 or order=3 and not (week=0 or course=0)))", 3, 0, true);
        press("day=0 and (hour=2 or hour=3 and (order=9 or order=3 and (week=0 or course=0)))", 3, 0, false);
        press("day<9999 and hour<0012", 3, 0, true);
        press("day<0", 3, 0, false);
        press("not day<0", 3, 0, true);
        press("day<0 or day=0", 3, 0, true);
        press("day=0 and day<0", 3, 0, false);
    }

    /** What the law ahead told of hours and presses is gone with it. */
    private static void lawsOneByOne() {
        LuckLinks x = withPlayers(2, 30, "hour tee 2 from 0;hour tee 3 from 0;press tee more 4;press long more 5 if day=0;");
        x.run(0, 3);
        CHECK.due(12, "tee", x.score(0, 0, 0, 0), 39);
        CHECK.due(12, "long", x.score(0, 0, 0, 1), 35);
        CHECK.due(12, "long on day 1", x.score(0, 0, 1, 1), 30);
        for (int week = 1; week < 4; week++) {
            x.week(week, 0);
            CHECK.due(9, "law", Check.law(x, week < 3 ? "" : "press long more 6 if day=2;"), week < 3 ? 0 : 1);
            x.run(week, 3);
            CHECK.due(12, "tee in week " + week, x.score(0, week, 0, 0), 30);
            CHECK.due(12, "long in week " + week, x.score(0, week, 0, 1), 30);
            CHECK.due(12, "long on day 2", x.score(0, week, 2, 1), week < 3 ? 30 : 36);
        }
    }

    private static void allCourses() {
        LuckLinks x = new LuckLinks();
        x.player(0, 0, 0, 0);
        for (int course = 0; course < 6; course++) {
            x.course(course, 10 + course, 20 + course, 30 + course);
            x.week(course, course);
            x.run(course, 1);
        }
        for (int course = 0; course < 6; course++) {
            for (int part = 0; part < 4; part++) {
                CHECK.due(12, "strokes of course " + course, x.score(0, course, 3, part), 10 * part + course);
            }
        }
    }

    private static void behind() {
        LuckLinks x = new LuckLinks();
        x.player(0, 0, 0, 0);
        x.player(4, 0, 0, 0);
        x.player(10, 0, 0, 0);
        x.course(30, 0, 0, 0);
        x.week(0, 0);
        Check.law(x, "press last more 1 if behind=4;press last more 2 if behind=10;press last more 7 if behind=0;"
                + "press short more 1 if behind=0 and day=0;");
        x.run(0, 7);
        for (int p = 0; p < 3; p++) {
            CHECK.due(12, "behind is 0 on day 0", x.score(p, 0, 0, 2), 1);
        }
        CHECK.due(12, "behind 0 on day 1", x.score(0, 0, 1, 3), 7);
        CHECK.due(12, "behind 4 on day 1", x.score(1, 0, 1, 3), 1);
        CHECK.due(12, "behind 10 on day 1", x.score(2, 0, 1, 3), 2);
        CHECK.due(12, "behind 2 on day 2", x.score(1, 0, 2, 3), 0);
        CHECK.due(12, "behind 15 on day 2", x.score(2, 0, 2, 3), 0);
        CHECK.due(12, "behind 0 on day 2", x.score(0, 0, 2, 3), 7);
    }

    private static void cuts() {
        LuckLinks x = new LuckLinks();
        int[] tee = {3, 1, 1, 2, 0, 2};
        for (int gift : tee) {
            x.player(gift, 0, 0, 0);
        }
        x.course(30, 0, 0, 0);
        for (int week = 0; week < 5; week++) {
            x.week(week, 0);
        }
        Check.law(x, "cut 1 4;");
        CHECK.due(12, "the 4th least with one alike: 5 go on", x.run(0, 63), 6 + 6 + 5 + 5);
        CHECK.due(12, "the worst is out", x.score(0, 0, 2, -1), -1);
        CHECK.due(12, "one alike is in", x.score(5, 0, 3, -1), 32);
        CHECK.due(12, "the first of those in", x.score(3, 0, 2, 4), 0);
        CHECK.due(12, "the last of those in", x.score(4, 0, 2, 4), 4);
        Check.law(x, "cut 0 20;cut 1 6;cut 2 1;");
        CHECK.due(12, "all, if there are not so many", x.run(1, 63), 6 + 6 + 6 + 1);
        Check.law(x, "cut 0 3;cut 1 2;cut 2 1;");
        CHECK.due(12, "three cuts", x.run(2, 63), 6 + 3 + 3 + 1);
        Check.law(x, "cut 0 1;cut 0 2;");
        CHECK.due(12, "two alike as 2nd", x.run(3, 63), 6 + 3 + 3 + 3);
        Check.law(x, "cut 0 1;press tee more 9 if behind>0 and day=1;press tee more 9 if behind=0 and day=1;");
        CHECK.due(12, "the least of those in", x.run(4, 47), 5 + 2 + 2 + 2);
        CHECK.due(12, "behind of those in alone", x.score(1, 4, 1, 0), 40);
    }
}
