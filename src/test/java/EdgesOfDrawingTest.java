import java.math.BigInteger;

/** Each sentence on an edge of promise 12 and of how a WEEK is DRAWN; the words in quotes are the document's. */
public final class EdgesOfDrawingTest {
    private static final Check CHECK = new Check();

    private EdgesOfDrawingTest() {
    }

    public static void main(String[] args) {
        weeksFromLeastToMost();
        weekWithoutCourse();
        weekWithRounds();
        fieldsOfPlayersThereAre();
        fieldsOfOneAndOfAll();
        roundsThatMightPass();
        roundsThatMightPassInSpiteOfACut();
        refusedRunsDrawNothing();
        drawsWrapAround();
        drawsOfNothing();
        drawsFromLeastToMost();
        giftsHeld();
        strokesHeld();
        heldOnlyTogether();
        hoursWrapAround();
        hoursFromLeastToMost();
        orderOfThoseAlike();
        pressesOnTheirEdges();
        pressesOfOrderBeyondHours();
        behindOfThoseIn();
        cutsOfThoseAlike();
        cutsOfAll();
        cutsOfEachDay();
        CHECK.end("EdgesOfDrawingTest");
    }

    private static LuckLinks withLaw(int players, String law) {
        LuckLinks x = Check.withPlayers(players);
        CHECK.due(9, law, Check.law(x, law) >= 0, true);
        return x;
    }

    private static void weeksFromLeastToMost() {
        LuckLinks x = Check.withPlayers(1);
        CHECK.range(12, "run of a week", week -> x.run(week, 1), 0, 39, -1);
        CHECK.due(12, "two weeks' rounds", x.count(2), 8);
        CHECK.due(12, "not as told", x.count(5), 4);
        CHECK.due(12, "no room was wanting", x.count(6), 0);
    }

    /** "(that has a COURSE and no ROUNDS)". */
    private static void weekWithoutCourse() {
        LuckLinks x = new LuckLinks();
        x.player(0, 0, 0, 0);
        CHECK.due(12, "no course at all", x.run(0, 1), -1);
        x.course(0, 0, 0, 0);
        CHECK.due(12, "a course, but not its own", x.run(0, 1), -1);
        x.week(1, 0);
        CHECK.due(12, "another week's course", x.run(0, 1), -1);
        CHECK.due(12, "its own course", x.run(1, 1), 4);
        CHECK.due(12, "reason 0", x.count(5), 3);
        CHECK.due(12, "not reason 1", x.count(6), 0);
    }

    private static void weekWithRounds() {
        LuckLinks x = Check.withPlayers(2);
        x.round(1, 0, 0, 0);
        CHECK.due(12, "one round of another player", x.run(0, 1), -1);
        CHECK.due(12, "one round of its own", x.run(0, 2), -1);
        CHECK.due(12, "the week behind", x.run(1, 1), 4);
        CHECK.due(12, "once more", x.run(1, 1), -1);
        CHECK.due(12, "for the other one", x.run(1, 2), -1);
        CHECK.due(12, "reason 0", x.count(5), 4);
        CHECK.due(12, "not reason 1", x.count(6), 0);
        CHECK.due(12, "five rounds", x.count(2), 5);
    }

    /** "a FIELD (bits of PLAYERS, one at least)". */
    private static void fieldsOfPlayersThereAre() {
        LuckLinks x = Check.withPlayers(3);
        int[] wrong = {0, 8, 9, 15, 1 << 19, 1 << 20, 1 << 30, -1, Integer.MIN_VALUE, Integer.MIN_VALUE + 1, Integer.MAX_VALUE};
        for (int field : wrong) {
            CHECK.due(12, "field " + field, x.run(0, field), -1);
        }
        CHECK.due(12, "reason 0", x.count(5), wrong.length);
        CHECK.due(12, "not reason 1", x.count(6), 0);
        CHECK.due(12, "no rounds", x.count(2), 0);
        CHECK.due(12, "all of them", x.run(0, 7), 12);
        LuckLinks none = new LuckLinks();
        none.course(0, 0, 0, 0);
        none.week(0, 0);
        CHECK.due(12, "nobody", none.run(0, 0), -1);
        CHECK.due(12, "nobody there", none.run(0, 1), -1);
        LuckLinks full = Check.withPlayers(20);
        CHECK.due(12, "a 21st", full.run(0, 1 << 20), -1);
        CHECK.due(12, "all and a 21st", full.run(0, (1 << 21) - 1), -1);
        CHECK.due(12, "below 0", full.run(0, -1), -1);
        CHECK.due(12, "reason 0", full.count(5), 3);
    }

    private static void fieldsOfOneAndOfAll() {
        LuckLinks x = Check.withPlayers(20);
        CHECK.due(12, "the first alone", x.run(0, 1), 4);
        CHECK.due(12, "the last alone", x.run(1, 1 << 19), 4);
        CHECK.due(12, "all", x.run(2, (1 << 20) - 1), 80);
        CHECK.due(12, "the last one's", x.score(19, 1, 3, 4), 0);
        CHECK.due(12, "not the first one's", x.score(0, 1, 0, 4), -1);
        CHECK.due(12, "not the last one's", x.score(19, 0, 0, 4), -1);
        for (int player = 0; player < 20; player++) {
            CHECK.due(12, "each one's last", x.score(player, 2, 3, 4) >= 0, true);
        }
    }

    /** "NONE likewise (1,200 might be passed: all DAYS for all)." */
    private static void roundsThatMightPass() {
        LuckLinks x = Check.withPlayers(20);
        for (int week = 0; week < 14; week++) {
            x.run(week, 0xfffff);
        }
        CHECK.due(12, "1,120 are there", x.count(2), 1120);
        x.image();
        CHECK.due(12, "80 more are 1,200", x.run(14, 0xfffff), 80);
        CHECK.due(12, "nothing was refused", x.count(6), 0);
        CHECK.due(12, "full", x.run(15, 1), -1);
        CHECK.due(12, "reason 1", x.count(6), 1);
        CHECK.due(12, "full, and not as told", x.run(15, 0), -1);
        CHECK.due(12, "full, and in a week with rounds", x.run(14, 1), -1);
        CHECK.due(12, "reason 0", x.count(5), 2);
        CHECK.due(12, "reason 1", x.count(6), 1);
        x.restore(0);
        x.round(0, 39, 0, 0);
        CHECK.due(12, "80 more are 1,201", x.run(14, 0xfffff), -1);
        CHECK.due(12, "reason 1", x.count(6), 2);
        CHECK.due(12, "nothing was drawn", x.count(2), 1121);
        CHECK.due(12, "76 more are 1,197", x.run(14, 0x7ffff), 76);
        CHECK.due(12, "4 more are 1,201", x.run(15, 1), -1);
        CHECK.due(12, "reason 1", x.count(6), 3);
    }

    private static void roundsThatMightPassInSpiteOfACut() {
        LuckLinks x = withLaw(20, "");
        for (int week = 0; week < 14; week++) {
            x.run(week, 0xfffff);
        }
        x.round(0, 39, 0, 0);
        Check.law(x, "cut 0 1;luck tee 9;");
        CHECK.due(12, "few would go on, all might", x.run(14, 0xfffff), -1);
        CHECK.due(12, "reason 1", x.count(6), 1);
        CHECK.due(12, "nothing was drawn", x.score(0, 14, 0, 0), -1);
    }

    /** "doing nothing but REFUSED": z and the gifts stay. */
    private static void refusedRunsDrawNothing() {
        int[] wrong = {3, 7, 0xfffff, 0, 1 << 20, -1};
        LuckLinks twin = nearlyFull();
        CHECK.due(12, "the last run", twin.run(16, 1), 4);
        for (int field : wrong) {
            LuckLinks x = nearlyFull();
            CHECK.due(12, "run(16, " + field + ")", x.run(16, field), -1);
            CHECK.due(12, "refused", x.count(5) + x.count(6), 1);
            CHECK.due(12, "the last run", x.run(16, 1), 4);
            for (int day = 0; day < 4; day++) {
                CHECK.due(12, "drawn by the same z", x.score(0, 16, day, 0), twin.score(0, 16, day, 0));
            }
            CHECK.due(12, "drifted from the same gift", x.gift(0, 0), twin.gift(0, 0));
            CHECK.due(12, "not drifted", x.gift(1, 0), twin.gift(1, 0));
        }
    }

    /** With 1,196 rounds. */
    private static LuckLinks nearlyFull() {
        LuckLinks x = withLaw(20, "luck tee 9;drift tee 9;hour tee 20 from 0;");
        for (int week = 0; week < 14; week++) {
            x.run(week, 0xfffff);
        }
        x.run(14, 0x7ffff);
        return x;
    }

    /** "z times 6364136223846793005 and 1442695040888963407 (64 bits, wrapping); .. shifted to the right by 33 (0 comes in)". */
    private static void drawsWrapAround() {
        LuckLinks x = withLaw(1, "drift tee 9;luck tee 9;press tee more 20;press tee more 20;");
        x.seed(999999999);
        BigInteger z = BigInteger.valueOf(999999999);
        int highBits = 0;
        int gift = 0;
        for (int week = 0; week < 40; week++) {
            x.run(week, 1);
            for (int i = 0; i < 20; i++) {
                z = z.multiply(new BigInteger("6364136223846793005")).add(new BigInteger("1442695040888963407"))
                        .mod(BigInteger.ONE.shiftLeft(64));
                highBits += z.testBit(63) ? 1 : 0;
                int drawn = z.shiftRight(33).mod(BigInteger.valueOf(19)).intValue() - 9;
                if (i == 0) {
                    gift = Math.max(-40, Math.min(40, gift + drawn));
                    CHECK.due(12, "gift in week " + week, x.gift(0, 0), gift);
                } else if (i >= 4 && i % 4 == 0) {
                    int strokes = Math.max(0, Math.min(99, 40 + gift + drawn));
                    CHECK.due(12, "strokes in week " + week, x.score(0, week, i / 4 - 1, 0), strokes);
                }
            }
        }
        CHECK.due(12, "the highest bit was often set", highBits > 300 && highBits < 500, true);
    }

    /** "modulo twice N and 1, less N" with N 0 is 0: each day alike. */
    private static void drawsOfNothing() {
        LuckLinks x = withLaw(2, "drift tee 0;luck tee 0;");
        x.run(0, 3);
        for (int day = 0; day < 4; day++) {
            for (int part = 0; part < 4; part++) {
                CHECK.due(12, "no luck", x.score(1, 0, day, part), 0);
            }
        }
        CHECK.due(12, "no drift", x.gift(1, 0), 0);
    }

    /** From less N to N, both ends, nothing beyond. */
    private static void drawsFromLeastToMost() {
        for (int n = 1; n <= 9; n += 4) {
            LuckLinks x = withLaw(5, "luck tee " + n + ";press tee more 20;");
            int least = 99;
            int most = 0;
            for (int week = 0; week < 40; week++) {
                x.run(week, 31);
                least = Math.min(least, x.score(week % 5, week, 0, 0));
                most = Math.max(most, x.score(week % 5, week, 0, 0));
                for (int day = 1; day < 4; day++) {
                    least = Math.min(least, x.score(1, week, day, 0));
                    most = Math.max(most, x.score(1, week, day, 0));
                }
            }
            CHECK.due(12, "the least of luck " + n, least, 20 - n);
            CHECK.due(12, "the most of luck " + n, most, 20 + n);
        }
    }

    /** "(held to -40 to 40)": it goes beyond what can be told, up to that and back again. */
    private static void giftsHeld() {
        LuckLinks x = new LuckLinks();
        for (int i = 0; i < 10; i++) {
            x.player(20, -20, 20, -20);
        }
        x.course(0, 0, 0, 0);
        Check.law(x, "drift tee 9;drift long 9;drift short 9;drift last 9;");
        int least = 0;
        int most = 0;
        for (int week = 0; week < 20; week++) {
            x.week(week, 0);
            x.run(week, 0x3ff);
            for (int player = 0; player < 10; player++) {
                least = Math.min(least, x.gift(player, 1));
                most = Math.max(most, x.gift(player, 0));
            }
        }
        CHECK.due(12, "the least", least, -40);
        CHECK.due(12, "the most", most, 40);
        // Each week by the draws themselves: one held goes on from where it is held.
        LuckLinks y = new LuckLinks();
        y.player(20, -20, 0, 0);
        y.course(0, 0, 0, 0);
        Check.law(y, "drift tee 9;drift long 9;");
        long z = 1;
        int[] gifts = {20, -20};
        int held = 0;
        for (int week = 0; week < 40; week++) {
            y.week(week, 0);
            y.run(week, 1);
            for (int i = 0; i < 20; i++) {
                z = z * 6364136223846793005L + 1442695040888963407L;
                if (i < 2) {
                    int wanted = gifts[i] + (int) ((z >>> 33) % 19) - 9;
                    gifts[i] = Math.max(-40, Math.min(40, wanted));
                    held += gifts[i] == wanted ? 0 : 1;
                    CHECK.due(12, "gift in week " + week, y.gift(0, i), gifts[i]);
                }
            }
        }
        CHECK.due(12, "some were held", held > 0, true);
    }

    /** "together held to 0 to 99". */
    private static void strokesHeld() {
        LuckLinks x = new LuckLinks();
        x.player(20, 20, -20, -20);
        x.course(60, 60, 19, 21);
        x.week(0, 0);
        Check.law(x, "press tee more 19;press long more 20;");
        x.run(0, 1);
        CHECK.due(12, "99", x.score(0, 0, 0, 0), 99);
        CHECK.due(12, "100", x.score(0, 0, 0, 1), 99);
        CHECK.due(12, "-1", x.score(0, 0, 0, 2), 0);
        CHECK.due(12, "1", x.score(0, 0, 0, 3), 1);
        CHECK.due(12, "all together", x.score(0, 0, 0, -1), 199);
        x.week(1, 0);
        Check.law(x, "press tee more 18;press long more 20;press short more 1;press last less 1;");
        x.run(1, 1);
        CHECK.due(12, "98", x.score(0, 1, 3, 0), 98);
        CHECK.due(12, "0", x.score(0, 1, 3, 2), 0);
        CHECK.due(12, "0", x.score(0, 1, 3, 3), 0);
    }

    /** What is too much on the way comes back, if all together isn't. */
    private static void heldOnlyTogether() {
        LuckLinks x = new LuckLinks();
        x.player(20, -20, 0, 0);
        x.course(60, 0, 0, 0);
        x.week(0, 0);
        Check.law(x, "hour tee 20 from 0;press tee more 20;press tee less 20;press tee less 20;press tee less 9;"
                + "press long less 20;hour long 20 from 0;press long more 20;press long more 3;");
        x.run(0, 1);
        CHECK.due(12, "120 less 49", x.score(0, 0, 0, 0), 71);
        CHECK.due(12, "-40 and 43", x.score(0, 0, 0, 1), 3);
    }

    /** "HOUR: the place in that ORDER (0 on) modulo 12." */
    private static void hoursWrapAround() {
        LuckLinks x = Check.withPlayers(20);
        x.run(0, 0xfffff);
        for (int player = 0; player < 20; player++) {
            for (int day = 0; day < 4; day++) {
                CHECK.due(12, "hour of place " + player, x.score(player, 0, day, 4), player < 12 ? player : player - 12);
            }
        }
        CHECK.due(12, "a field with gaps goes by places", x.run(1, 0xaaaaa), 40);
        for (int player = 1; player < 20; player += 2) {
            CHECK.due(12, "hour of player " + player, x.score(player, 1, 0, 4), player / 2);
        }
    }

    /** "N of each \"hour\" of that PART from which HOUR on it is". */
    private static void hoursFromLeastToMost() {
        LuckLinks x = withLaw(20, "hour tee 1 from 0;hour long 2 from 1;hour short 3 from 11;hour last 20 from 5;");
        x.run(0, 0xfffff);
        for (int player = 0; player < 20; player++) {
            int hour = player % 12;
            CHECK.due(12, "from 0 on", x.score(player, 0, 0, 0), 1);
            CHECK.due(12, "from 1 on", x.score(player, 0, 0, 1), hour >= 1 ? 2 : 0);
            CHECK.due(12, "from 11 on", x.score(player, 0, 0, 2), hour == 11 ? 3 : 0);
            CHECK.due(12, "from 5 on", x.score(player, 0, 0, 3), hour >= 5 ? 20 : 0);
        }
    }

    /** "on DAY 0 by numbers, else by their sums of all DAYS ahead, the greatest first, of several by numbers". */
    private static void orderOfThoseAlike() {
        LuckLinks x = new LuckLinks();
        int[] gifts = {0, 3, 0, 3, 1};
        for (int gift : gifts) {
            x.player(gift, 0, 0, 0);
        }
        x.course(10, 10, 10, 10);
        x.week(0, 0);
        x.week(1, 0);
        x.run(0, 31);
        int[] places = {3, 0, 4, 1, 2};
        for (int player = 0; player < 5; player++) {
            CHECK.due(12, "day 0", x.score(player, 0, 0, 4), player);
            for (int day = 1; day < 4; day++) {
                CHECK.due(12, "day " + day, x.score(player, 0, day, 4), places[player]);
            }
        }
        // All days ahead count, not the last alone: 0 is 9 more on day 0 and less on day 1, alike with 2 then.
        Check.law(x, "press tee more 9 if order=0 and day=0;press tee less 9 if order=0 and day=1;");
        x.run(1, 5);
        for (int day = 0; day < 4; day++) {
            CHECK.due(12, "of 0 on day " + day, x.score(0, 1, day, 4), 0);
            CHECK.due(12, "of 2 on day " + day, x.score(2, 1, day, 4), 1);
        }
    }

    /** One of three, in week 39 on course 1, on a day. */
    private static void press(String condition, int player, int day, boolean isHeld) {
        LuckLinks x = new LuckLinks();
        x.player(0, 0, 0, 0);
        x.player(5, 0, 0, 0);
        x.player(7, 0, 0, 0);
        x.course(0, 0, 0, 0);
        x.course(20, 20, 20, 20);
        x.week(39, 1);
        Check.law(x, "press long more 4 if " + condition + ";press long less 4 if not (" + condition + ");");
        CHECK.due(9, condition, x.fault(), -1);
        x.run(39, 7);
        CHECK.due(12, condition + " of " + player + " on day " + day, x.score(player, 39, day, 1), isHeld ? 24 : 16);
    }

    /** "<", ">" and "=" at, below and above each word's number. */
    private static void pressesOnTheirEdges() {
        String[] words = {"day", "week", "course"};
        int[] are = {2, 39, 1};
        for (int i = 0; i < words.length; i++) {
            for (int by = -1; by <= 1; by++) {
                int number = are[i] + by;
                press(words[i] + "<" + number, 1, 2, by > 0);
                press(words[i] + ">" + number, 1, 2, by < 0);
                press(words[i] + "=" + number, 1, 2, by == 0);
            }
        }
        for (int place = 0; place < 3; place++) {
            for (int number = 0; number < 4; number++) {
                press("order<" + number + " and day=0", place, 0, place < number);
                press("order>" + number + " and day=0", place, 0, place > number);
                press("hour=" + number + " and day=0", place, 0, place == number);
            }
        }
        press("day<0", 0, 0, false);
        press("day>9999", 0, 0, false);
        press("day<9999", 0, 0, true);
        press("behind<0", 0, 0, false);
        press("behind=0 and day=0", 2, 0, true);
        press("behind>0 and day=0", 2, 0, false);
        press("behind=7 and day=1", 2, 1, true);
        press("behind=0 and day=1", 0, 1, true);
        press("behind<7 and day=1", 2, 1, false);
        press("behind>6 and day=1", 2, 1, true);
        press("behind=5 and day=1", 1, 1, true);
        // The greatest sum goes first: on day 1 player 2 has place 0.
        press("order=0 and day=1", 2, 1, true);
        press("order=2 and day=1", 0, 1, true);
        press("hour=1 and day=1", 1, 1, true);
    }

    private static void pressesOfOrderBeyondHours() {
        LuckLinks x = withLaw(20, "press tee more 1 if order=12;press long more 1 if hour=0;press short more 1 if order=19;"
                + "press last more 1 if hour>11;");
        x.run(0, 0xfffff);
        for (int player = 0; player < 20; player++) {
            CHECK.due(12, "order 12", x.score(player, 0, 0, 0), player == 12 ? 1 : 0);
            CHECK.due(12, "hour 0", x.score(player, 0, 0, 1), player % 12 == 0 ? 1 : 0);
            CHECK.due(12, "order 19", x.score(player, 0, 0, 2), player == 19 ? 1 : 0);
            CHECK.due(12, "hour 12", x.score(player, 0, 0, 3), 0);
        }
    }

    /** "behind: how much its sum is above the least sum of those in, 0 on DAY 0". */
    private static void behindOfThoseIn() {
        LuckLinks x = new LuckLinks();
        x.player(-20, -20, -20, -20);
        x.player(20, 20, 20, 20);
        x.course(20, 20, 20, 20);
        x.week(0, 0);
        Check.law(x, "press tee more 1 if behind=160 and day=1;press tee more 2 if behind=313 and day=2;"
                + "press tee more 4 if behind>313 and day=2;press tee more 8 if behind=0;");
        x.run(0, 3);
        CHECK.due(12, "0 on day 0", x.score(1, 0, 0, 0), 48);
        CHECK.due(12, "168 less 8", x.score(1, 0, 1, 0), 41);
        CHECK.due(12, "168 and 161 less 16", x.score(1, 0, 2, 0), 42);
        CHECK.due(12, "the least is 0 behind", x.score(0, 0, 1, 0), 8);
    }

    private static LuckLinks withGifts(int... gifts) {
        LuckLinks x = new LuckLinks();
        for (int gift : gifts) {
            x.player(gift, 0, 0, 0);
        }
        x.course(30, 0, 0, 0);
        for (int week = 0; week < 40; week++) {
            x.week(week, 0);
        }
        return x;
    }

    /** "those go on whose sum isn't above the KEEP-th least one". */
    private static void cutsOfThoseAlike() {
        LuckLinks x = withGifts(4, 1, 2, 2, 2, 3);
        // The sums by places: 31, 32, 32, 32, 33, 34.
        int[] goOn = {1, 4, 4, 4, 5, 6};
        for (int keep = 1; keep <= 6; keep++) {
            Check.law(x, "cut 0 " + keep + ";");
            CHECK.due(12, "cut 0 " + keep, x.run(keep, 63), 6 + 3 * goOn[keep - 1]);
            CHECK.due(12, "the worst", x.score(0, keep, 1, 0), keep < 6 ? -1 : 34);
            CHECK.due(12, "the best", x.score(1, keep, 1, 0), 31);
            CHECK.due(12, "one of three alike", x.score(4, keep, 3, 0), keep < 2 ? -1 : 32);
        }
        LuckLinks alike = withGifts(0, 0, 0);
        Check.law(alike, "cut 0 1;cut 1 1;cut 2 1;");
        CHECK.due(12, "all alike go on", alike.run(0, 7), 12);
    }

    /** "(all, if there are not so many)". */
    private static void cutsOfAll() {
        LuckLinks x = withGifts(0, 1, 2);
        Check.law(x, "cut 0 3;");
        CHECK.due(12, "as many as there are", x.run(0, 7), 12);
        Check.law(x, "cut 0 4;");
        CHECK.due(12, "one more", x.run(1, 7), 12);
        Check.law(x, "cut 0 20;cut 1 20;cut 2 20;");
        CHECK.due(12, "the most", x.run(2, 7), 12);
        Check.law(x, "cut 0 1;cut 1 1;cut 2 1;");
        CHECK.due(12, "one alone", x.run(3, 4), 4);
        CHECK.due(12, "the least", x.run(4, 7), 6);
        Check.law(x, "cut 0 2;cut 1 3;");
        CHECK.due(12, "not so many any more", x.run(5, 7), 3 + 2 + 2 + 2);
    }

    /** "After a DAY with a \"cut\"". */
    private static void cutsOfEachDay() {
        int[] rounds = {3 + 1 + 1 + 1, 3 + 3 + 1 + 1, 3 + 3 + 3 + 1};
        for (int day = 0; day < 3; day++) {
            LuckLinks x = withGifts(0, 1, 2);
            Check.law(x, "cut " + day + " 1;");
            CHECK.due(12, "cut of day " + day, x.run(0, 7), rounds[day]);
            CHECK.due(12, "on that day all play", x.score(2, 0, day, 0), 32);
            CHECK.due(12, "on the next one not", x.score(2, 0, day + 1, 0), -1);
            CHECK.due(12, "but one", x.score(0, 0, 3, 0), 30);
            CHECK.due(12, "who goes first then", x.score(0, 0, 3, 4), 0);
        }
        LuckLinks x = withGifts(0, 1, 2);
        CHECK.due(12, "no cut", x.run(0, 7), 12);
        // The sum of all days counts: 2 is the least by far on day 1 alone.
        Check.law(x, "cut 1 1;press tee less 1 if order=0 and day=1;");
        CHECK.due(12, "by sums", x.run(1, 7), 3 + 3 + 1 + 1);
        CHECK.due(12, "30 and 30", x.score(0, 1, 2, 0), 30);
    }
}
