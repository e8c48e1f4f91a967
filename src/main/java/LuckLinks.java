import java.util.Arrays;

/**
 * How much of it was luck: players, courses, rounds told or drawn by a LAW, and what can be
 * said of them. The words in capitals are those of the document ../shared/DOC.md.
 */
public final class LuckLinks {
    public static final int NONE = -1;

    private static final int PARTS = 4;
    /** The column behind the PARTS' own: all of them together. */
    private static final int ALL = 4;
    private static final int COLUMNS = 5;
    private static final int PLAYERS = 20;
    private static final int COURSES = 6;
    private static final int WEEKS = 40;
    private static final int DAYS = 4;
    private static final int HOURS = 12;
    private static final int ROUNDS = 1200;
    private static final int RULES = 40;
    private static final int TAPE = 700;
    private static final int IMAGES = 3;
    private static final int OPEN = 9;
    private static final int KEYS = 3;
    private static final int PLACES = 20;
    private static final int GIFT = 40;
    private static final int MOST_LUCK = 9;
    private static final int NEEDED = 30;

    private static final int NOT_AS_TOLD = 0;
    private static final int NO_ROOM = 1;
    private static final int FAULTY = 2;

    private static final long MILLION = 1000000L;
    /** The least number that 1 to 20 all divide: OFF in so many shares of a stroke is whole. */
    private static final long SHARES = 232792560L;

    private static final int NO_GIFT = -100;
    private static final int NO_LAW = -2;
    private static final int NO_SPAN = -1000000;
    private static final int NO_BACK = -1000000000;
    private static final long NO_WORTH = -1000000000L;
    private static final long NO_SKILL = -1000000000000L;

    private final World world = new World();
    private final World[] images = new World[IMAGES];
    private int imageCount = 0;
    private final byte[] tape = new byte[TAPE];
    private int tapeLength = 0;
    private final LawReader reader = new LawReader();
    private Law law = new Law();
    /** A text is read into this one, so that a FAULT leaves the LAW as it was. */
    private Law spare = new Law();
    private int faultPlace = NONE;
    private final int[] refused = new int[3];
    private final Ratio ratio = new Ratio();
    private final WeekDrawing drawing = new WeekDrawing(world);
    private final Standings standings = new Standings(world);
    private final Form form = new Form(world);
    private final Halves halves = new Halves(world);
    private final Chances chances = new Chances();
    private final Tallies tallies = new Tallies(world);

    public LuckLinks() {
    }

    public int player(int tee, int lon, int shor, int last) {
        if (!areBetween(tee, lon, shor, last, -20, 20)) {
            return refuse(NOT_AS_TOLD);
        }
        if (world.players >= PLAYERS) {
            return refuse(NO_ROOM);
        }
        return world.addPlayer(tee, lon, shor, last);
    }

    public int course(int tee, int lon, int shor, int last) {
        if (!areBetween(tee, lon, shor, last, 0, 60)) {
            return refuse(NOT_AS_TOLD);
        }
        if (world.courses >= COURSES) {
            return refuse(NO_ROOM);
        }
        return world.addCourse(tee, lon, shor, last);
    }

    public boolean week(int week, int course) {
        boolean isTold = isWeek(week) && isBetween(course, 0, world.courses - 1)
                && world.courseOf(week) == NONE;
        if (!isTold) {
            refuse(NOT_AS_TOLD);
            return false;
        }
        world.weekCourse[week] = course;
        return true;
    }

    public int round(int player, int week, int time, int strokes) {
        if (!world.isFree(player, week, time) || !isBetween(strokes, 0, 99999999)) {
            return refuse(NOT_AS_TOLD);
        }
        if (world.rounds >= ROUNDS) {
            return refuse(NO_ROOM);
        }
        return world.addRound(player, week, time, strokes);
    }

    public boolean bet(int player, int week, int v) {
        if (!world.isPlayer(player) || !isWeek(week) || !isBetween(v, -9999, 9999)) {
            refuse(NOT_AS_TOLD);
            return false;
        }
        world.putBet(player, week, v);
        return true;
    }

    public boolean seed(int z) {
        if (!isBetween(z, 0, 999999999)) {
            refuse(NOT_AS_TOLD);
            return false;
        }
        world.z = z;
        return true;
    }

    public int feed(int a, int b, int c, int d, int e) {
        if (tapeLength + 20 > TAPE) {
            return NONE;
        }
        feedNumber(a);
        feedNumber(b);
        feedNumber(c);
        feedNumber(d);
        feedNumber(e);
        return tapeLength;
    }

    public int law(int n) {
        if (n < 0 || n > tapeLength) {
            refuse(NOT_AS_TOLD);
            return NO_LAW;
        }
        faultPlace = reader.readLaw(tape, n, spare);
        tapeLength = 0;
        if (faultPlace != NONE) {
            return refuse(FAULTY);
        }
        Law read = spare;
        spare = law;
        law = read;
        return law.rules;
    }

    public int fault() {
        return faultPlace;
    }

    public int rule(int what) {
        if (isBetween(what, 0, PARTS - 1)) {
            return law.drifts[what];
        }
        if (isBetween(what, 10, 10 + PARTS - 1)) {
            return law.lucks[what - 10];
        }
        if (isBetween(what, 20, 20 + DAYS - 2)) {
            return law.keeps[what - 20];
        }
        if (isBetween(what, 31, 30 + PLACES)) {
            return law.prizes[what - 30];
        }
        if (isBetween(what, 61, 60 + PLACES)) {
            return law.points[what - 60];
        }
        if (isBetween(what, 100, 100 + WEEKS - 1)) {
            return law.weightOf(what - 100);
        }
        return what == 200 ? law.rules : NONE;
    }

    public int run(int week, int field) {
        if (!isWeek(week) || world.courseOf(week) == NONE || world.roundsOn(week, 0) > 0
                || field == 0 || !world.isField(field)) {
            return refuse(NOT_AS_TOLD);
        }
        if (world.rounds + DAYS * Integer.bitCount(field) > ROUNDS) {
            return refuse(NO_ROOM);
        }
        return drawing.drawWeek(week, field, law);
    }

    public int gift(int player, int part) {
        if (!world.isPlayer(player) || !isBetween(part, 0, PARTS - 1)) {
            return NO_GIFT;
        }
        return world.giftOf(player, part);
    }

    public int score(int player, int week, int day, int part) {
        if (!world.hasRound(player, week, day)) {
            return NONE;
        }
        if (part == 4) {
            return world.hourOf(player, week, day);
        }
        return isPart(part) ? world.valueOf(player, week, day, part) : NONE;
    }

    public int place(int player, int week) {
        return world.isPlayer(player) && isWeek(week) ? standings.placeOf(player, week) : NONE;
    }

    public int won(int player, int from, int to, int what) {
        if (!world.isPlayer(player) || !areWeeks(from, to) || !isBetween(what, 0, 1)) {
            return NONE;
        }
        return standings.shareIn(player, from, to, what == 0 ? law.prizes : law.points);
    }

    public int cut(int week, int day, int what) {
        if (!isWeek(week) || !isBetween(day, 0, DAYS - 2) || !isBetween(what, 0, 3)) {
            return NONE;
        }
        if (law.keeps[day] == 0 || world.roundsOn(week, day) == 0) {
            return NONE;
        }
        return standings.cutOn(week, day, law.keeps[day], what);
    }

    public long luck(int part, int from, int to, int what) {
        if (!isPart(part) || !areWeeks(from, to)) {
            return NONE;
        }
        tallies.compareCouples(part, from, to, ratio);
        return ratio.pick(what, NONE);
    }

    public int back(int day, int k, int from, int to, int what) {
        if (!isBetween(day, 0, DAYS - 2) || !isBetween(k, 1, PLAYERS) || !areWeeks(from, to)
                || !isBetween(what, 0, 2)) {
            return NO_BACK;
        }
        int together = 0;
        for (int week = from; week <= to; week++) {
            together += standings.leadersOf(week, day, k, what);
        }
        return together;
    }

    public long skill(int player, int part, int week, int what) {
        if (!world.isPlayer(player) || !isPart(part) || !isBetween(week, 0, WEEKS)) {
            return NO_SKILL;
        }
        form.gather(player, part);
        form.weigh(player, week, law);
        form.giveSkill(ratio);
        return ratio.pick(what, NO_SKILL);
    }

    public int span(int player, int part, int week, int what) {
        if (!world.isPlayer(player) || !isPart(part) || !isBetween(week, 0, WEEKS)
                || !isBetween(what, 0, 1)) {
            return NO_SPAN;
        }
        form.gather(player, part);
        return form.spanOf(player, week, what, law);
    }

    public int best(int week) {
        if (!isBetween(week, 0, WEEKS)) {
            return NONE;
        }
        form.gatherAll();
        return form.bestAhead(week, law);
    }

    public int years(int player) {
        if (!world.isPlayer(player)) {
            return NONE;
        }
        form.gatherAll();
        return form.longestBest(player, law);
    }

    public int odds(int player, int field, int week) {
        boolean isOfField = world.isPlayer(player) && world.isField(field)
                && (field >> player & 1) == 1;
        if (!isOfField || !isBetween(week, 0, WEEKS)) {
            return NONE;
        }
        form.gatherAll();
        for (int one = 0; one < PLAYERS; one++) {
            chances.setStrokes(one, form.wholeSkill(one, week, law));
        }
        return chances.winning(player, field, law);
    }

    public int need(int d, int part) {
        if (!isBetween(d, 1, 40) || !isBetween(part, 1, 100)) {
            return NONE;
        }
        return chances.roundsNeeded(d, part, law);
    }

    public int lasts(int part, int from, int half, int to, int what) {
        if (!isPart(part) || !areHalves(from, half, to)) {
            return NONE;
        }
        halves.compareHalves(part, from, half, to);
        switch (what) {
            case 0:
                return halves.alike;
            case 1:
                return halves.unlike;
            case 2:
                return halves.inBoth;
            default:
                return NONE;
        }
    }

    public int most(int from, int half, int to) {
        return areHalves(from, half, to) ? halves.lastingPart(from, half, to) : NONE;
    }

    public long right(int week, int day, int what) {
        if (!isWeek(week) || !isBetween(day, 2, DAYS - 1)) {
            return NONE;
        }
        tallies.putRight(week, day, ratio);
        return ratio.pick(what, NONE);
    }

    public int listed(int from, int to, int k) {
        if (!areWeeks(from, to) || !isBetween(k, 0, world.players - 1)) {
            return NONE;
        }
        return standings.listedAt(from, to, k, law.points);
    }

    public int line(int k, int from, int to, int what) {
        if (!isBetween(k, 1, PLAYERS) || !areWeeks(from, to)) {
            return NONE;
        }
        int first = standings.firstOf(from, to, Standings.EVERY, k, law.points);
        int even = standings.firstOf(from, to, Standings.EVEN, k, law.points);
        int odd = standings.firstOf(from, to, Standings.ODD, k, law.points);
        switch (what) {
            case 0:
                return Integer.bitCount(first & ~even);
            case 1:
                return Integer.bitCount(first & ~odd);
            case 2:
                return Integer.bitCount(first & ~even & ~odd);
            default:
                return NONE;
        }
    }

    public int held(int week, int what) {
        return isWeek(week) && isBetween(what, 0, 4) ? form.missed(week, what, law) : NONE;
    }

    public long worth(int hour, int from, int to, int what) {
        if (!isBetween(hour, 1, HOURS - 1) || !areWeeks(from, to)) {
            return NO_WORTH;
        }
        tallies.weighHour(hour, from, to, ratio);
        return ratio.pick(what, NO_WORTH);
    }

    public long cost(int player, int hour, int from, int to, int what) {
        if (!world.isPlayer(player) || !isBetween(hour, 1, HOURS - 1) || !areWeeks(from, to)) {
            return NO_WORTH;
        }
        tallies.chargeHour(player, hour, from, to, ratio);
        return ratio.pick(what, NO_WORTH);
    }

    public long pressed(int player, int what) {
        if (!world.isPlayer(player) || !isBetween(what, 0, 2)) {
            return NONE;
        }
        tallies.press(player);
        if (what == 2) {
            return tallies.rowsOfPress();
        }
        return what == 0 ? tallies.pressYes : tallies.pressWeeks;
    }

    public int other(int what) {
        tallies.findOther();
        if (tallies.otherOne == NONE) {
            return NONE;
        }
        switch (what) {
            case 0:
                return tallies.otherOne;
            case 1:
                return tallies.looked;
            case 2:
                return tallies.otherHundredths();
            default:
                return NONE;
        }
    }

    public long beside(int player, int what) {
        if (!world.isPlayer(player)) {
            return NO_SKILL;
        }
        tallies.lookBeside(player, ratio);
        return ratio.pick(what, NO_SKILL);
    }

    public int image() {
        if (imageCount >= IMAGES) {
            return refuse(NO_ROOM);
        }
        World kept = new World();
        kept.copyFrom(world);
        images[imageCount] = kept;
        imageCount++;
        return imageCount - 1;
    }

    public boolean restore(int image) {
        if (!isBetween(image, 0, imageCount - 1) || images[image] == null) {
            refuse(NOT_AS_TOLD);
            return false;
        }
        world.copyFrom(images[image]);
        return true;
    }

    public int count(int what) {
        if (isBetween(what, 10, 10 + WEEKS - 1)) {
            return world.courseOf(what - 10);
        }
        if (isBetween(what, 5, 7)) {
            return refused[what - 5];
        }
        switch (what) {
            case 0:
                return world.players;
            case 1:
                return world.courses;
            case 2:
                return world.rounds;
            case 3:
                return tapeLength;
            case 4:
                return imageCount;
            default:
                return NONE;
        }
    }

    private int refuse(int reason) {
        if (reason >= 0 && reason < refused.length) {
            refused[reason]++;
        }
        return NONE;
    }

    private void feedNumber(int number) {
        for (int shift = 24; shift >= 0 && tapeLength < TAPE; shift -= 8) {
            tape[tapeLength] = (byte) (number >> shift);
            tapeLength++;
        }
    }

    private static boolean isBetween(int number, int least, int most) {
        return number >= least && number <= most;
    }

    private static boolean areBetween(int a, int b, int c, int d, int least, int most) {
        return isBetween(a, least, most) && isBetween(b, least, most)
                && isBetween(c, least, most) && isBetween(d, least, most);
    }

    private static boolean isWeek(int week) {
        return isBetween(week, 0, WEEKS - 1);
    }

    private static boolean areWeeks(int from, int to) {
        return isWeek(from) && isWeek(to) && from <= to;
    }

    private static boolean areHalves(int from, int half, int to) {
        return areWeeks(from, to) && from < half && half <= to;
    }

    /** A PART, or NONE for all of them. */
    private static boolean isPart(int part) {
        return isBetween(part, NONE, PARTS - 1);
    }

    /** All that an IMAGE holds: PLAYERS, COURSES, WEEKS, ROUNDS, BETS and z. */
    static final class World {
        int players = 0;
        final int[] gifts = new int[PLAYERS * PARTS];
        int courses = 0;
        final int[] courseStrokes = new int[COURSES * PARTS];
        final int[] weekCourse = new int[WEEKS];
        int rounds = 0;
        /** By slots; NONE where there is no ROUND. */
        final int[] hours = new int[WEEKS * DAYS * PLAYERS];
        final int[] values = new int[WEEKS * DAYS * PLAYERS * COLUMNS];
        /** By DAYS: how many ROUNDS, and their VALUES together, for the means of OFF. */
        final int[] dayRounds = new int[WEEKS * DAYS];
        final int[] dayValues = new int[WEEKS * DAYS * COLUMNS];
        final int[] bets = new int[WEEKS * PLAYERS];
        long z = 1;

        World() {
            Arrays.fill(weekCourse, NONE);
            Arrays.fill(hours, NONE);
        }

        void copyFrom(World from) {
            players = from.players;
            courses = from.courses;
            rounds = from.rounds;
            z = from.z;
            System.arraycopy(from.gifts, 0, gifts, 0, gifts.length);
            System.arraycopy(from.courseStrokes, 0, courseStrokes, 0, courseStrokes.length);
            System.arraycopy(from.weekCourse, 0, weekCourse, 0, weekCourse.length);
            System.arraycopy(from.hours, 0, hours, 0, hours.length);
            System.arraycopy(from.values, 0, values, 0, values.length);
            System.arraycopy(from.dayRounds, 0, dayRounds, 0, dayRounds.length);
            System.arraycopy(from.dayValues, 0, dayValues, 0, dayValues.length);
            System.arraycopy(from.bets, 0, bets, 0, bets.length);
        }

        int addPlayer(int tee, int lon, int shor, int last) {
            putParts(gifts, players, tee, lon, shor, last);
            players++;
            return players - 1;
        }

        int addCourse(int tee, int lon, int shor, int last) {
            putParts(courseStrokes, courses, tee, lon, shor, last);
            courses++;
            return courses - 1;
        }

        private static void putParts(int[] table, int row, int tee, int lon, int shor, int last) {
            int at = row * PARTS;
            if (at >= 0 && at + 3 < table.length) {
                table[at] = tee;
                table[at + 1] = lon;
                table[at + 2] = shor;
                table[at + 3] = last;
            }
        }

        boolean isPlayer(int player) {
            return player >= 0 && player < players;
        }

        /** Whether all bits are those of PLAYERS. */
        boolean isField(int field) {
            return field >= 0 && field < 1 << players;
        }

        int courseOf(int week) {
            return isWeek(week) ? weekCourse[week] : NONE;
        }

        int giftOf(int player, int part) {
            return isPlayer(player) && part >= 0 && part < PARTS ? gifts[player * PARTS + part] : 0;
        }

        /** Held to what a GIFT can be. */
        void putGift(int player, int part, int gift) {
            if (isPlayer(player) && part >= 0 && part < PARTS) {
                gifts[player * PARTS + part] = Math.max(-GIFT, Math.min(GIFT, gift));
            }
        }

        void putBet(int player, int week, int v) {
            if (isPlayer(player) && isWeek(week)) {
                bets[week * PLAYERS + player] = v;
            }
        }

        /** 0 without. */
        int betOf(int player, int week) {
            return isPlayer(player) && isWeek(week) ? bets[week * PLAYERS + player] : 0;
        }

        int strokesOf(int course, int part) {
            boolean isThere = course >= 0 && course < courses && part >= 0 && part < PARTS;
            return isThere ? courseStrokes[course * PARTS + part] : 0;
        }

        /** Whether a ROUND at that time may be told. */
        boolean isFree(int player, int week, int time) {
            if (!isPlayer(player) || courseOf(week) == NONE || !isBetween(time, 0, DAYS * HOURS - 1)) {
                return false;
            }
            int day = time / HOURS;
            return !hasRound(player, week, day) && (day == 0 || hasRound(player, week, day - 1));
        }

        /** Strokes: those of each PART times a hundred to the power of its number. */
        int addRound(int player, int week, int time, int strokes) {
            int slot = slotOf(player, week, Math.floorDiv(time, HOURS));
            if (slot == NONE) {
                return NONE;
            }
            int day = slot / PLAYERS;
            int left = strokes;
            for (int part = 0; part < PARTS; part++) {
                addValue(slot, day, part, left % 100);
                addValue(slot, day, ALL, left % 100);
                left /= 100;
            }
            hours[slot] = Math.floorMod(time, HOURS);
            dayRounds[day]++;
            rounds++;
            return rounds - 1;
        }

        private void addValue(int slot, int day, int column, int value) {
            values[slot * COLUMNS + column] += value;
            dayValues[day * COLUMNS + column] += value;
        }

        private static int slotOf(int player, int week, int day) {
            boolean isSlot = player >= 0 && player < PLAYERS && week >= 0 && week < WEEKS
                    && day >= 0 && day < DAYS;
            return isSlot ? (week * DAYS + day) * PLAYERS + player : NONE;
        }

        int hourOf(int player, int week, int day) {
            int slot = slotOf(player, week, day);
            return slot == NONE ? NONE : hours[slot];
        }

        boolean hasRound(int player, int week, int day) {
            int slot = slotOf(player, week, day);
            return slot != NONE && hours[slot] != NONE;
        }

        int roundsOn(int week, int day) {
            boolean isThere = week >= 0 && week < WEEKS && day >= 0 && day < DAYS;
            return isThere ? dayRounds[week * DAYS + day] : 0;
        }

        /** 0 where there is no ROUND. */
        int valueOf(int player, int week, int day, int part) {
            int slot = slotOf(player, week, day);
            int column = part == NONE ? ALL : part;
            boolean isThere = slot != NONE && column >= 0 && column < COLUMNS;
            return isThere ? values[slot * COLUMNS + column] : 0;
        }

        /** The VALUES of all ROUNDS of a DAY together. */
        int allOf(int week, int day, int part) {
            int column = part == NONE ? ALL : part;
            boolean isThere = week >= 0 && week < WEEKS && day >= 0 && day < DAYS
                    && column >= 0 && column < COLUMNS;
            return isThere ? dayValues[(week * DAYS + day) * COLUMNS + column] : 0;
        }

        /** The VALUES by NONE from DAY 0 to that one together. */
        int sumOf(int player, int week, int lastDay) {
            int sum = 0;
            for (int day = 0; day <= lastDay && day < DAYS; day++) {
                int slot = slotOf(player, week, day);
                sum += slot == NONE ? 0 : values[slot * COLUMNS + ALL];
            }
            return sum;
        }

        /** OFF in SHARES; 0 where there is no ROUND. */
        long offOf(int player, int week, int day, int part) {
            int many = roundsOn(week, day);
            if (many < 1 || !hasRound(player, week, day)) {
                return 0;
            }
            long above = (long) many * valueOf(player, week, day, part) - allOf(week, day, part);
            return above * (SHARES / many);
        }
    }

    /** What a text told: the numbers of its RULES and the conditions of its "press". */
    static final class Law {
        /** Steps of conditions; the tighter one binds, the lower. */
        static final int OR = -1;
        static final int AND = -2;
        static final int NOT = -3;
        /** Numbers that conditions ask for are below it, so one int holds a whole comparison. */
        static final int NUMBERS = 10000;
        /** At most nine are open in one another, each with two that wait: far below this. */
        private static final int WAITING = 64;

        int rules = 0;
        final int[] drifts = new int[PARTS];
        final int[] lucks = new int[PARTS];
        final int[] keeps = new int[DAYS - 1];
        final int[] prizes = new int[PLACES + 1];
        final int[] points = new int[PLACES + 1];
        /** NONE where no "weigh" tells of that AGE. */
        final int[] weights = new int[WEEKS];
        /** What holds of each AGE; the oldest ROUND there can be is of AGE 40. */
        private final int[] weightsByAge = new int[WEEKS + 1];
        private int hourRules = 0;
        private final int[] hourParts = new int[RULES];
        private final int[] hourStrokes = new int[RULES];
        private final int[] hourFroms = new int[RULES];
        private int pressRules = 0;
        private final int[] pressParts = new int[RULES];
        private final int[] pressStrokes = new int[RULES];
        /** Where each one's condition ends in the code; it begins where the one ahead ends. */
        private final int[] pressEnds = new int[RULES];
        private final int[] code = new int[TAPE];
        private int codeLength = 0;
        private final boolean[] stack = new boolean[WAITING];

        Law() {
            Arrays.fill(weights, NONE);
            Arrays.fill(weightsByAge, 1);
        }

        void clear() {
            rules = 0;
            Arrays.fill(drifts, 0);
            Arrays.fill(lucks, 0);
            Arrays.fill(keeps, 0);
            Arrays.fill(prizes, 0);
            Arrays.fill(points, 0);
            Arrays.fill(weights, NONE);
            hourRules = 0;
            pressRules = 0;
            codeLength = 0;
        }

        void addHour(int part, int strokes, int from) {
            if (hourRules < RULES) {
                hourParts[hourRules] = part;
                hourStrokes[hourRules] = strokes;
                hourFroms[hourRules] = from;
                hourRules++;
            }
        }

        /** Its condition is what was emitted since the "press" ahead. */
        void addPress(int part, int strokes) {
            if (pressRules < RULES) {
                pressParts[pressRules] = part;
                pressStrokes[pressRules] = strokes;
                pressEnds[pressRules] = codeLength;
                pressRules++;
            }
        }

        void emit(int step) {
            if (codeLength < code.length) {
                code[codeLength] = step;
                codeLength++;
            }
        }

        /** Once all RULES are read. */
        void spreadWeights() {
            int weight = 1;
            for (int age = 0; age <= WEEKS; age++) {
                if (age < WEEKS && weights[age] != NONE) {
                    weight = weights[age];
                }
                weightsByAge[age] = weight;
            }
        }

        int weightOf(int age) {
            return age >= 0 && age <= WEEKS ? weightsByAge[age] : 1;
        }

        int strokesByHour(int part, int hour) {
            int together = 0;
            for (int i = 0; i < hourRules; i++) {
                if (hourParts[i] == part && hour >= hourFroms[i]) {
                    together += hourStrokes[i];
                }
            }
            return together;
        }

        /** Asked: the answers to the WORDS in the order in which the document names them. */
        int strokesByPress(int part, int[] asked) {
            int together = 0;
            int begin = 0;
            for (int i = 0; i < pressRules; i++) {
                if (pressParts[i] == part && holds(begin, pressEnds[i], asked)) {
                    together += pressStrokes[i];
                }
                begin = pressEnds[i];
            }
            return together;
        }

        /** The code is in the order of a stack machine; one without steps holds. */
        private boolean holds(int begin, int end, int[] asked) {
            int top = -1;
            for (int i = begin; i < end && i < code.length; i++) {
                int step = code[i];
                if (step >= 0 && top + 1 < WAITING) {
                    top++;
                    stack[top] = compares(step, asked);
                } else if (step == NOT && top >= 0) {
                    stack[top] = !stack[top];
                } else if (step == AND && top >= 1) {
                    top--;
                    stack[top] = stack[top] && stack[top + 1];
                } else if (step == OR && top >= 1) {
                    top--;
                    stack[top] = stack[top] || stack[top + 1];
                }
            }
            return top < 0 || stack[top];
        }

        private static boolean compares(int step, int[] asked) {
            int number = step % NUMBERS;
            int key = step / NUMBERS % KEYS;
            int word = step / NUMBERS / KEYS;
            int answer = word < asked.length ? asked[word] : 0;
            if (key == 0) {
                return answer < number;
            }
            return key == 1 ? answer > number : answer == number;
        }
    }

    /** Reads a text token by token; where it stops is the FAULT, for it steps past none that is wrong. */
    static final class LawReader {
        private static final int END = 0;
        private static final int WORD = 1;
        private static final int DIGITS = 2;
        private static final int SIGN = 3;
        private static final int DIGITS_AT_MOST = 4;
        private static final int WORDS = 6;
        /** What waits in a condition is less what its step in the code is; a bracket has none. */
        private static final int BRACKET = 0;
        private static final int NO_JOIN = 0;
        /** At most nine are open, and in each of them and outside two joins wait: far below this. */
        private static final int WAITING = 64;

        private byte[] text = new byte[0];
        private Law law = new Law();
        /** The tokens: their kinds, first bytes and the places behind their last ones. */
        private final int[] kinds = new int[TAPE + 1];
        private final int[] starts = new int[TAPE + 1];
        private final int[] ends = new int[TAPE + 1];
        /** The token at hand; the END is never stepped past. */
        private int at = 0;
        /** What was taken last. */
        private int number = 0;
        private int part = 0;
        /** "not", brackets and joins whose ends are still to come. */
        private final int[] waiting = new int[WAITING];
        private int waits = 0;
        private int open = 0;
        private int brackets = 0;

        /** The FAULT's place; NONE without. */
        int readLaw(byte[] bytes, int n, Law into) {
            text = bytes;
            law = into;
            law.clear();
            at = 0;
            split(Math.min(n, Math.min(bytes.length, TAPE)));
            for (int i = 0; i <= RULES; i++) {
                if (kinds[at] == END) {
                    law.spreadWeights();
                    return NONE;
                }
                if (i == RULES || !readRule() || !takeSign(';')) {
                    return starts[at];
                }
                law.rules++;
            }
            return starts[at];
        }

        /** The last token is the END, at the text's length. */
        private void split(int length) {
            int place = 0;
            int tokens = 0;
            while (place < length && tokens < TAPE) {
                int kind = kindOf(text[place]);
                int start = place;
                place++;
                while (place < length && kind != SIGN && kind != END && kindOf(text[place]) == kind) {
                    place++;
                }
                if (kind != END) {
                    kinds[tokens] = kind;
                    starts[tokens] = start;
                    ends[tokens] = place;
                    tokens++;
                }
            }
            kinds[tokens] = END;
            starts[tokens] = length;
            ends[tokens] = length;
        }

        /** END for a blank; a byte that begins no token counts as a SIGN that nothing asks for. */
        private static int kindOf(byte sign) {
            if (sign == ' ' || sign == '\n') {
                return END;
            }
            if (sign >= 'a' && sign <= 'z') {
                return WORD;
            }
            return sign >= '0' && sign <= '9' ? DIGITS : SIGN;
        }

        private boolean readRule() {
            if (takeWord("drift")) {
                return takePart() && readAmount(law.drifts);
            }
            if (takeWord("luck")) {
                return takePart() && readAmount(law.lucks);
            }
            if (takeWord("hour")) {
                return takePart() && readHour();
            }
            if (takeWord("press")) {
                return takePart() && readPress();
            }
            if (takeWord("cut")) {
                return takeNumber(0, DAYS - 2) && readEntry(law.keeps, 1, 20);
            }
            if (takeWord("prize")) {
                return takeNumber(1, PLACES) && readEntry(law.prizes, 0, 9999);
            }
            if (takeWord("points")) {
                return takeNumber(1, PLACES) && readEntry(law.points, 0, 999);
            }
            return takeWord("weigh") && takeNumber(0, WEEKS - 1) && readEntry(law.weights, 0, 20);
        }

        private boolean readAmount(int[] table) {
            number = part;
            return readEntry(table, 0, MOST_LUCK);
        }

        /** The number taken last is the row; the one to come is what stands there. */
        private boolean readEntry(int[] table, int least, int most) {
            int row = number;
            if (!takeNumber(least, most) || row < 0 || row >= table.length) {
                return false;
            }
            table[row] = number;
            return true;
        }

        private boolean readHour() {
            if (!takeNumber(0, 20)) {
                return false;
            }
            int strokes = number;
            if (!takeWord("from") || !takeNumber(0, HOURS - 1)) {
                return false;
            }
            law.addHour(part, strokes, number);
            return true;
        }

        private boolean readPress() {
            boolean isMore = takeWord("more");
            if (!isMore && !takeWord("less")) {
                return false;
            }
            if (!takeNumber(0, 20)) {
                return false;
            }
            int strokes = isMore ? number : -number;
            if (takeWord("if") && !readAny()) {
                return false;
            }
            law.addPress(part, strokes);
            return true;
        }

        /** Emits each comparison at once, what joins or turns them when its end has come. */
        private boolean readAny() {
            waits = 0;
            open = 0;
            brackets = 0;
            // Each turn takes a token at least.
            for (int i = 0; i < TAPE; i++) {
                if (open < OPEN && takeWord("not")) {
                    await(-Law.NOT);
                    open++;
                } else if (open < OPEN && takeSign('(')) {
                    await(BRACKET);
                    open++;
                    brackets++;
                } else {
                    if (!readComparison()) {
                        return false;
                    }
                    endOne();
                    int join = takeJoin();
                    if (join == NO_JOIN) {
                        emitDownTo(-Law.OR);
                        return brackets == 0;
                    }
                    emitDownTo(join);
                    await(join);
                }
            }
            return false;
        }

        private void await(int one) {
            if (waits < WAITING) {
                waiting[waits] = one;
                waits++;
            }
        }

        /** All that binds at least as tight as that, back to the bracket that is open. */
        private void emitDownTo(int loosest) {
            while (waits > 0 && waiting[waits - 1] >= loosest) {
                waits--;
                law.emit(-waiting[waits]);
                open -= waiting[waits] == -Law.NOT ? 1 : 0;
            }
        }

        /** With a ONE each "not" ahead of it ends, and with a closing bracket one ONE more. */
        private void endOne() {
            emitDownTo(-Law.NOT);
            while (brackets > 0 && waits > 0 && takeSign(')')) {
                emitDownTo(-Law.OR);
                waits--;
                open--;
                brackets--;
                emitDownTo(-Law.NOT);
            }
        }

        private int takeJoin() {
            if (takeWord("or")) {
                return -Law.OR;
            }
            return takeWord("and") ? -Law.AND : NO_JOIN;
        }

        private boolean readComparison() {
            int word = 0;
            while (word < WORDS && !takeWord(wordAt(word))) {
                word++;
            }
            if (word == WORDS) {
                return false;
            }
            int key = 0;
            while (key < KEYS && !takeSign(signAt(key))) {
                key++;
            }
            if (key == KEYS || !takeNumber(0, Law.NUMBERS - 1)) {
                return false;
            }
            law.emit((word * KEYS + key) * Law.NUMBERS + number);
            return true;
        }

        private static String wordAt(int word) {
            switch (word) {
                case 0:
                    return "day";
                case 1:
                    return "hour";
                case 2:
                    return "week";
                case 3:
                    return "course";
                case 4:
                    return "behind";
                default:
                    return "order";
            }
        }

        private static char signAt(int key) {
            if (key == 0) {
                return '<';
            }
            return key == 1 ? '>' : '=';
        }

        private static String partAt(int part) {
            switch (part) {
                case 0:
                    return "tee";
                case 1:
                    return "long";
                case 2:
                    return "short";
                default:
                    return "last";
            }
        }

        private void step() {
            if (at < TAPE) {
                at++;
            }
        }

        private boolean takePart() {
            for (int i = 0; i < PARTS; i++) {
                if (takeWord(partAt(i))) {
                    part = i;
                    return true;
                }
            }
            return false;
        }

        private boolean takeWord(String word) {
            int start = starts[at];
            if (kinds[at] != WORD || ends[at] - start != word.length()) {
                return false;
            }
            for (int i = 0; i < word.length() && start + i < text.length; i++) {
                if (text[start + i] != word.charAt(i)) {
                    return false;
                }
            }
            step();
            return true;
        }

        private boolean takeSign(char sign) {
            if (kinds[at] != SIGN || starts[at] >= text.length || text[starts[at]] != sign) {
                return false;
            }
            step();
            return true;
        }

        private boolean takeNumber(int least, int most) {
            if (kinds[at] != DIGITS || ends[at] - starts[at] > DIGITS_AT_MOST) {
                return false;
            }
            int read = 0;
            for (int i = starts[at]; i < ends[at] && i < text.length; i++) {
                read = read * 10 + text[i] - '0';
            }
            if (read < least || read > most) {
                return false;
            }
            number = read;
            step();
            return true;
        }
    }

    /** A number in lowest terms, or none. */
    static final class Ratio {
        private long upper = 0;
        /** 0: there is none. */
        private long lower = 0;

        void setNone() {
            upper = 0;
            lower = 0;
        }

        void set(long newUpper, long newLower) {
            long divisor = newLower > 0 ? divisorOf(Math.abs(newUpper), newLower) : 0;
            if (divisor < 1) {
                setNone();
            } else {
                upper = newUpper / divisor;
                lower = newLower / divisor;
            }
        }

        /** Times a / b. */
        void multiply(long a, long b) {
            set(upper * a, lower * b);
        }

        long pick(int what, long none) {
            if (lower == 0 || !isBetween(what, 0, 1)) {
                return none;
            }
            return what == 0 ? upper : lower;
        }

        /** Numbers of 63 bits take fewer than a hundred steps. */
        private static long divisorOf(long a, long b) {
            long greater = a;
            long lesser = b;
            for (int i = 0; i < 100 && lesser != 0; i++) {
                long rest = greater % lesser;
                greater = lesser;
                lesser = rest;
            }
            return greater;
        }
    }

    /** PLAYERS in a row by keys, the least first, of several the one that came first. */
    static final class Ranking {
        private final int[] who = new int[PLAYERS];
        private final int[] keys = new int[PLAYERS];
        private int size = 0;

        void clear() {
            size = 0;
        }

        void add(int one, int key) {
            if (size >= PLAYERS) {
                return;
            }
            int at = size;
            while (at > 0 && keys[at - 1] > key) {
                who[at] = who[at - 1];
                keys[at] = keys[at - 1];
                at--;
            }
            who[at] = one;
            keys[at] = key;
            size++;
        }

        int size() {
            return size;
        }

        int whoAt(int at) {
            return at >= 0 && at < size ? who[at] : NONE;
        }

        int keyAt(int at) {
            return at >= 0 && at < size ? keys[at] : 0;
        }

        int lesserThan(int key) {
            int lesser = 0;
            while (lesser < size && keys[lesser] < key) {
                lesser++;
            }
            return lesser;
        }

        int asMuchAs(int key) {
            int alike = 0;
            for (int i = 0; i < size; i++) {
                if (keys[i] == key) {
                    alike++;
                }
            }
            return alike;
        }
    }

    /** Draws a WEEK by the LAW. */
    static final class WeekDrawing {
        private static final int WORD_DAY = 0;
        private static final int WORD_HOUR = 1;
        private static final int WORD_WEEK = 2;
        private static final int WORD_COURSE = 3;
        private static final int WORD_BEHIND = 4;
        private static final int WORD_ORDER = 5;

        private final World world;
        private final Ranking order = new Ranking();
        private final Ranking sums = new Ranking();
        private final int[] asked = new int[6];

        WeekDrawing(World world) {
            this.world = world;
        }

        /** How many ROUNDS. */
        int drawWeek(int week, int field, Law law) {
            int ahead = world.rounds;
            for (int player = 0; player < world.players; player++) {
                if ((field >> player & 1) == 1) {
                    drift(player, law);
                }
            }
            int in = field;
            for (int day = 0; day < DAYS; day++) {
                drawDay(week, day, in, law);
                if (day < DAYS - 1 && law.keeps[day] > 0) {
                    in = goOn(week, day, in, law.keeps[day]);
                }
            }
            return world.rounds - ahead;
        }

        private void drift(int player, Law law) {
            for (int part = 0; part < PARTS; part++) {
                world.putGift(player, part, world.giftOf(player, part) + draw(law.drifts[part]));
            }
        }

        private void drawDay(int week, int day, int in, Law law) {
            order.clear();
            for (int player = 0; player < world.players; player++) {
                if ((in >> player & 1) == 1) {
                    order.add(player, -world.sumOf(player, week, day - 1));
                }
            }
            int least = -order.keyAt(order.size() - 1);
            asked[WORD_DAY] = day;
            asked[WORD_WEEK] = week;
            asked[WORD_COURSE] = world.courseOf(week);
            for (int at = 0; at < order.size(); at++) {
                asked[WORD_HOUR] = at % HOURS;
                asked[WORD_BEHIND] = -order.keyAt(at) - least;
                asked[WORD_ORDER] = at;
                int strokes = drawStrokes(order.whoAt(at), law);
                world.addRound(order.whoAt(at), week, day * HOURS + at % HOURS, strokes);
            }
        }

        /** The strokes of all PARTS as round() takes them. */
        private int drawStrokes(int player, Law law) {
            int together = 0;
            int unit = 1;
            for (int part = 0; part < PARTS; part++) {
                int strokes = world.strokesOf(asked[WORD_COURSE], part) + world.giftOf(player, part)
                        + law.strokesByHour(part, asked[WORD_HOUR])
                        + law.strokesByPress(part, asked) + draw(law.lucks[part]);
                together += Math.max(0, Math.min(99, strokes)) * unit;
                unit *= 100;
            }
            return together;
        }

        private int goOn(int week, int day, int in, int keep) {
            sums.clear();
            for (int player = 0; player < world.players; player++) {
                if ((in >> player & 1) == 1) {
                    sums.add(player, world.sumOf(player, week, day));
                }
            }
            int on = 0;
            for (int at = 0; at < sums.size(); at++) {
                if (sums.lesserThan(sums.keyAt(at)) < keep) {
                    on |= 1 << sums.whoAt(at);
                }
            }
            return on;
        }

        /** From less n to n; z goes on for n 0, too. */
        private int draw(int n) {
            world.z = world.z * 6364136223846793005L + 1442695040888963407L;
            long drawn = world.z >>> 33;
            int ways = 2 * n + 1;
            return ways < 1 ? 0 : (int) (drawn % ways) - n;
        }
    }

    /** Who stands where: PLACES, what they bring, cuts, LEADERS, LISTS. */
    static final class Standings {
        static final int EVEN = 0;
        static final int ODD = 1;
        static final int EVERY = 2;

        private final World world;
        private final Ranking ranking = new Ranking();
        private final int[] gains = new int[PLAYERS];

        Standings(World world) {
            this.world = world;
        }

        /** NONE: no ROUNDS. On all DAYS ahead of it there are some, too. */
        private int lastDayOf(int week) {
            int last = NONE;
            for (int day = 0; day < DAYS; day++) {
                if (world.roundsOn(week, day) > 0) {
                    last = day;
                }
            }
            return last;
        }

        /** Those with a ROUND on that DAY have one on each DAY ahead. */
        private void rankBySums(int week, int day) {
            ranking.clear();
            for (int player = 0; player < world.players; player++) {
                if (world.hasRound(player, week, day)) {
                    ranking.add(player, world.sumOf(player, week, day));
                }
            }
        }

        int placeOf(int player, int week) {
            int last = lastDayOf(week);
            if (!world.hasRound(player, week, last)) {
                return NONE;
            }
            rankBySums(week, last);
            return 1 + ranking.lesserThan(world.sumOf(player, week, last));
        }

        int shareIn(int player, int from, int to, int[] table) {
            Arrays.fill(gains, 0);
            for (int week = from; week <= to; week++) {
                addShares(week, table);
            }
            return player >= 0 && player < PLAYERS ? gains[player] : 0;
        }

        /** Those alike share what their PLACES bring; row k of the table is PLACE k. */
        private void addShares(int week, int[] table) {
            rankBySums(week, lastDayOf(week));
            for (int at = 0; at < ranking.size(); at++) {
                int key = ranking.keyAt(at);
                int first = 1 + ranking.lesserThan(key);
                int alike = ranking.asMuchAs(key);
                int together = 0;
                for (int row = first; row < first + alike && row < table.length; row++) {
                    together += table[row];
                }
                int one = ranking.whoAt(at);
                if (alike > 0 && one >= 0 && one < PLAYERS) {
                    gains[one] += together / alike;
                }
            }
        }

        /** As the promise on cut() numbers it. */
        int cutOn(int week, int day, int keep, int what) {
            rankBySums(week, day);
            int on = 0;
            int greatest = 0;
            int missing = 0;
            for (int at = 0; at < ranking.size(); at++) {
                if (ranking.lesserThan(ranking.keyAt(at)) < keep) {
                    on++;
                    greatest = ranking.keyAt(at);
                    missing += world.hasRound(ranking.whoAt(at), week, day + 1) ? 0 : 1;
                }
            }
            switch (what) {
                case 0:
                    return ranking.size();
                case 1:
                    return on;
                case 2:
                    return greatest;
                default:
                    return missing;
            }
        }

        /** What 0: LEAD, 1: NEXT, 2: how many LEADERS. */
        int leadersOf(int week, int day, int k, int what) {
            ranking.clear();
            int asked = what == 0 ? day : day + 1;
            int all = 0;
            for (int player = 0; player < world.players; player++) {
                if (world.hasRound(player, week, day + 1)) {
                    ranking.add(player, world.sumOf(player, week, day));
                    all += world.valueOf(player, week, asked, NONE);
                }
            }
            int many = ranking.size();
            if (many < 2) {
                return 0;
            }
            int leaders = Math.min(k, many);
            if (what == 2) {
                return leaders;
            }
            int together = 0;
            for (int at = 0; at < leaders; at++) {
                together += all - many * world.valueOf(ranking.whoAt(at), week, asked, NONE);
            }
            return together;
        }

        /** Puts the LIST of these WEEKS, or of the even or odd ones of them, into the ranking. */
        private void rankByGains(int from, int to, int kind, int[] points) {
            Arrays.fill(gains, 0);
            for (int week = from; week <= to; week++) {
                if (kind == EVERY || week % 2 == kind) {
                    addShares(week, points);
                }
            }
            ranking.clear();
            for (int player = 0; player < world.players && player < PLAYERS; player++) {
                ranking.add(player, -gains[player]);
            }
        }

        int listedAt(int from, int to, int k, int[] points) {
            rankByGains(from, to, EVERY, points);
            return ranking.whoAt(k);
        }

        /** The first k of such a LIST as bits. */
        int firstOf(int from, int to, int kind, int k, int[] points) {
            rankByGains(from, to, kind, points);
            int bits = 0;
            for (int at = 0; at < k && at < ranking.size(); at++) {
                bits |= 1 << ranking.whoAt(at);
            }
            return bits;
        }
    }

    /** SKILL and what comes of it. */
    static final class Form {
        private final World world;
        /** By PLAYERS and WEEKS: OFF in SHARES together, and of how many ROUNDS. */
        private final long[] offs = new long[PLAYERS * WEEKS];
        private final int[] many = new int[PLAYERS * WEEKS];
        /** What weigh() found: SKILL times all WEIGHTS in SHARES, and all WEIGHTS. */
        private long upper = 0;
        private long lower = 0;

        Form(World world) {
            this.world = world;
        }

        void gather(int player, int part) {
            if (player < 0 || player >= PLAYERS) {
                return;
            }
            for (int week = 0; week < WEEKS; week++) {
                long off = 0;
                int played = 0;
                for (int day = 0; day < DAYS && world.hasRound(player, week, day); day++) {
                    off += world.offOf(player, week, day, part);
                    played++;
                }
                offs[player * WEEKS + week] = off;
                many[player * WEEKS + week] = played;
            }
        }

        void gatherAll() {
            for (int player = 0; player < world.players; player++) {
                gather(player, NONE);
            }
        }

        private static boolean isRow(int player, int week) {
            return player >= 0 && player < PLAYERS && week >= 0 && week < WEEKS;
        }

        private int roundsIn(int player, int week) {
            return isRow(player, week) ? many[player * WEEKS + week] : 0;
        }

        private long offsIn(int player, int week) {
            return isRow(player, week) ? offs[player * WEEKS + week] : 0;
        }

        /** Of what was gathered; the lower number is 0 where there is no SKILL. */
        void weigh(int player, int week, Law law) {
            upper = 0;
            lower = 0;
            if (!world.isPlayer(player)) {
                return;
            }
            for (int ahead = 0; ahead < week && ahead < WEEKS; ahead++) {
                int played = roundsIn(player, ahead);
                if (played > 0) {
                    int weight = law.weightOf(week - ahead);
                    upper += weight * offsIn(player, ahead);
                    lower += weight * played;
                }
            }
        }

        void giveSkill(Ratio skill) {
            skill.set(upper, lower * SHARES);
        }

        /** What 0: the least, 1: the greatest. */
        int spanOf(int player, int week, int what, Law law) {
            weigh(player, week, law);
            long endUpper = 0;
            long endLower = 0;
            for (int ahead = 0; ahead < week && ahead < WEEKS; ahead++) {
                int played = roundsIn(player, ahead);
                if (played > 0) {
                    int weight = law.weightOf(week - ahead);
                    long restUpper = upper - weight * offsIn(player, ahead);
                    long restLower = lower - weight * played;
                    if (restLower < 1) {
                        return NO_SPAN;
                    }
                    long less = endUpper * restLower - restUpper * endLower;
                    if (endLower == 0 || (what == 0 ? less > 0 : less < 0)) {
                        endUpper = restUpper;
                        endLower = restLower;
                    }
                }
            }
            return endLower == 0 ? NO_SPAN : hundredths(endUpper, endLower);
        }

        int bestAhead(int week, Law law) {
            int best = NONE;
            long bestUpper = 0;
            long bestLower = 0;
            for (int player = 0; player < world.players; player++) {
                weigh(player, week, law);
                boolean isBetter = best == NONE || upper * bestLower < bestUpper * lower;
                if (lower > 0 && isBetter) {
                    best = player;
                    bestUpper = upper;
                    bestLower = lower;
                }
            }
            return best;
        }

        int longestBest(int player, Law law) {
            int longest = 0;
            int row = 0;
            for (int week = 1; week <= WEEKS; week++) {
                row = bestAhead(week, law) == player ? row + 1 : 0;
                longest = Math.max(longest, row);
            }
            return longest;
        }

        int wholeSkill(int player, int week, Law law) {
            weigh(player, week, law);
            return lower > 0 ? (int) (upper / (lower * SHARES)) : 0;
        }

        /** As the promise on held() numbers it. */
        int missed(int week, int what, Law law) {
            int together = 0;
            for (int player = 0; player < world.players; player++) {
                if (!world.hasRound(player, week, 0)) {
                    continue;
                }
                if (what == 4) {
                    together++;
                } else {
                    int off = hundredths(world.offOf(player, week, 0, NONE), 1);
                    together += Math.abs(off - foretold(player, week, what, law));
                }
            }
            return together;
        }

        private int foretold(int player, int week, int what, Law law) {
            if (what == 1) {
                return world.betOf(player, week);
            }
            if (what == 3) {
                return 0;
            }
            gather(player, NONE);
            if (what == 2) {
                return latest(player, week);
            }
            weigh(player, week, law);
            return hundredths(upper, lower);
        }

        private int latest(int player, int week) {
            for (int ahead = week - 1; ahead >= 0; ahead--) {
                int played = roundsIn(player, ahead);
                if (played > 0) {
                    return hundredths(offsIn(player, ahead), played);
                }
            }
            return 0;
        }

        /** Of a mean in SHARES; 0 without. */
        private static int hundredths(long sum, long number) {
            return number > 0 ? (int) (sum * 100 / (number * SHARES)) : 0;
        }
    }

    /** Which PARTS last from one half of some WEEKS to the other. */
    static final class Halves {
        private final World world;
        private final long[] firstOffs = new long[PLAYERS];
        private final long[] firstRounds = new long[PLAYERS];
        private final long[] laterOffs = new long[PLAYERS];
        private final long[] laterRounds = new long[PLAYERS];
        int alike = 0;
        int unlike = 0;
        int inBoth = 0;

        Halves(World world) {
            this.world = world;
        }

        void compareHalves(int part, int from, int half, int to) {
            gatherHalf(part, from, half - 1, firstOffs, firstRounds);
            gatherHalf(part, half, to, laterOffs, laterRounds);
            alike = 0;
            unlike = 0;
            inBoth = 0;
            for (int one = 0; one < PLAYERS; one++) {
                if (isInBoth(one)) {
                    inBoth++;
                    compareWithThoseAhead(one);
                }
            }
        }

        private void gatherHalf(int part, int from, int to, long[] offs, long[] rounds) {
            for (int player = 0; player < PLAYERS; player++) {
                offs[player] = 0;
                rounds[player] = 0;
                for (int week = from; week <= to; week++) {
                    for (int day = 0; day < DAYS && world.hasRound(player, week, day); day++) {
                        offs[player] += world.offOf(player, week, day, part);
                        rounds[player]++;
                    }
                }
            }
        }

        private boolean isInBoth(int one) {
            return firstRounds[one] > 0 && laterRounds[one] > 0;
        }

        private void compareWithThoseAhead(int one) {
            for (int ahead = 0; ahead < one; ahead++) {
                if (isInBoth(ahead)) {
                    int same = compareMeans(firstOffs, firstRounds, one, ahead)
                            * compareMeans(laterOffs, laterRounds, one, ahead);
                    alike += same > 0 ? 1 : 0;
                    unlike += same < 0 ? 1 : 0;
                }
            }
        }

        /** -1, 0 or 1. */
        private static int compareMeans(long[] offs, long[] rounds, int a, int b) {
            return Long.compare(offs[a] * rounds[b], offs[b] * rounds[a]);
        }

        int lastingPart(int from, int half, int to) {
            int lasting = 0;
            int greatest = 0;
            for (int part = 0; part < PARTS; part++) {
                compareHalves(part, from, half, to);
                if (part == 0 || alike - unlike > greatest) {
                    lasting = part;
                    greatest = alike - unlike;
                }
            }
            return lasting;
        }
    }

    /** What LOTs bring: ODDS and NEED. */
    static final class Chances {
        private static final int LOT_REACH = PARTS * MOST_LUCK;
        private static final int STEP_REACH = 2 * LOT_REACH;
        private static final int GAP_REACH = NEEDED * STEP_REACH;

        /** Each row has sum 0 in its middle, at its own REACH. */
        private final long[] lot = new long[2 * LOT_REACH + 1];
        private final long[] waysSoFar = new long[2 * LOT_REACH + 1];
        /** The LOT of all sums from there on. */
        private final long[] lotFrom = new long[2 * LOT_REACH + 2];
        private final long[] step = new long[2 * STEP_REACH + 1];
        private final long[] gap = new long[2 * GAP_REACH + 1];
        private final long[] nextGap = new long[2 * GAP_REACH + 1];
        private long greatestStep = 0;
        /** The greatest sum of the LOT. */
        private int reach = 0;
        private final int[] strokes = new int[PLAYERS];

        Chances() {
        }

        void setStrokes(int player, int whole) {
            if (player >= 0 && player < PLAYERS) {
                strokes[player] = whole;
            }
        }

        private void fillLot(Law law) {
            Arrays.fill(lot, 0);
            lot[LOT_REACH] = 1;
            reach = 0;
            long ways = 1;
            for (int part = 0; part < PARTS; part++) {
                int n = Math.min(MOST_LUCK, law.lucks[part]);
                addDraw(n);
                reach += n;
                ways *= 2 * n + 1;
            }
            lotFrom[lot.length] = 0;
            for (int i = lot.length - 1; i >= 0; i--) {
                lot[i] = ways > 0 ? lot[i] * MILLION / ways : 0;
                lotFrom[i] = lotFrom[i + 1] + lot[i];
            }
        }

        private void addDraw(int n) {
            System.arraycopy(lot, 0, waysSoFar, 0, lot.length);
            Arrays.fill(lot, 0);
            for (int i = 0; i < lot.length; i++) {
                if (waysSoFar[i] > 0) {
                    for (int to = Math.max(0, i - n); to <= i + n && to < lot.length; to++) {
                        lot[to] += waysSoFar[i];
                    }
                }
            }
        }

        int winning(int player, int field, Law law) {
            if (player < 0 || player >= PLAYERS) {
                return NONE;
            }
            fillLot(law);
            long together = 0;
            for (int sum = -reach; sum <= reach; sum++) {
                long chance = lot[sum + LOT_REACH];
                for (int one = 0; one < PLAYERS; one++) {
                    if (one != player && (field >> one & 1) == 1) {
                        int above = strokes[player] + sum - strokes[one];
                        chance = chance * lotAbove(above) / MILLION;
                    }
                }
                together += chance;
            }
            return (int) together;
        }

        /** The LOT of all sums that are above one. */
        private long lotAbove(int sum) {
            int from = Math.max(0, Math.min(lot.length, sum + 1 + LOT_REACH));
            return lotFrom[from];
        }

        int roundsNeeded(int d, int part, Law law) {
            fillLot(law);
            fillStep();
            Arrays.fill(gap, 0);
            System.arraycopy(step, 0, gap, GAP_REACH - STEP_REACH, step.length);
            long wanted = part * (MILLION / 100);
            int far = 2 * reach;
            for (int rounds = 1; rounds <= NEEDED; rounds++) {
                if (gapsAbove(-rounds * d, far) >= wanted) {
                    return rounds;
                }
                // What is cut never comes back, so all that is left only shrinks.
                if (gapsAbove(-far - 1, far) < wanted) {
                    return NONE;
                }
                if (rounds < NEEDED) {
                    addStep(far);
                    far += 2 * reach;
                }
            }
            return NONE;
        }

        private void fillStep() {
            Arrays.fill(step, 0);
            for (int a = -reach; a <= reach; a++) {
                for (int b = -reach; b <= reach; b++) {
                    step[a - b + STEP_REACH] += lot[a + LOT_REACH] * lot[b + LOT_REACH] / MILLION;
                }
            }
            greatestStep = 0;
            for (int i = 0; i < step.length; i++) {
                greatestStep = Math.max(greatestStep, step[i]);
            }
        }

        /** The part of all differences that are above one; none goes farther than that. */
        private long gapsAbove(int difference, int far) {
            long together = 0;
            int from = Math.max(0, GAP_REACH + Math.max(-far, difference + 1));
            for (int i = from; i <= GAP_REACH + far && i < gap.length; i++) {
                together += gap[i];
            }
            return together;
        }

        /** One ROUND more. Less and more come alike, so one side is reckoned, the other copied. */
        private void addStep(int far) {
            Arrays.fill(nextGap, 0);
            int most = 2 * reach;
            for (int i = Math.max(0, GAP_REACH - far); i <= GAP_REACH + far && i < gap.length; i++) {
                long here = gap[i];
                if (here * greatestStep >= MILLION) {
                    int end = Math.min(nextGap.length - 1, i + most);
                    for (int to = Math.max(GAP_REACH, i - most); to <= end; to++) {
                        nextGap[to] += here * step[to - i + STEP_REACH] / MILLION;
                    }
                }
            }
            for (int more = 0; more <= far + most && more <= GAP_REACH; more++) {
                gap[GAP_REACH + more] = nextGap[GAP_REACH + more];
                gap[GAP_REACH - more] = nextGap[GAP_REACH + more];
            }
        }
    }

    /** What is counted over all ROUNDS of some WEEKS or of one PLAYER. */
    static final class Tallies {
        private final World world;
        /** What press() found: WEEKS with all four DAYS, and in how many of them it was so. */
        int pressWeeks = 0;
        int pressYes = 0;
        /** What findOther() found. */
        int otherOne = NONE;
        int looked = 0;
        private long otherRows = 0;
        /** Of couples: the squares of their differences together, and how many. */
        private long squares = 0;
        private long couples = 0;

        Tallies(World world) {
            this.world = world;
        }

        void compareCouples(int part, int from, int to, Ratio luck) {
            squares = 0;
            couples = 0;
            for (int player = 0; player < world.players; player++) {
                for (int week = from; week <= to; week++) {
                    addCouplesOfOne(player, week, part);
                }
            }
            long ownSquares = squares;
            long ownCouples = couples;
            squares = 0;
            couples = 0;
            for (int week = from; week <= to; week++) {
                for (int day = 0; day < DAYS; day++) {
                    addCouplesOfDay(week, day, part);
                }
            }
            if (ownCouples == 0 || couples == 0) {
                luck.setNone();
            } else {
                luck.set(ownSquares * couples, ownCouples * squares);
            }
        }

        private void addCouplesOfOne(int player, int week, int part) {
            long many = 0;
            long sum = 0;
            long sumOfSquares = 0;
            for (int day = 0; day < DAYS && world.hasRound(player, week, day); day++) {
                long value = world.valueOf(player, week, day, part);
                many++;
                sum += value;
                sumOfSquares += value * value;
            }
            addCouples(many, sum, sumOfSquares);
        }

        private void addCouplesOfDay(int week, int day, int part) {
            if (world.roundsOn(week, day) == 0) {
                return;
            }
            long sumOfSquares = 0;
            for (int player = 0; player < world.players; player++) {
                long value = world.valueOf(player, week, day, part);
                sumOfSquares += value * value;
            }
            addCouples(world.roundsOn(week, day), world.allOf(week, day, part), sumOfSquares);
        }

        /** The squares of all differences of n numbers: n times their squares less their sum's. */
        private void addCouples(long many, long sum, long sumOfSquares) {
            squares += many * sumOfSquares - sum * sum;
            couples += many * (many - 1) / 2;
        }

        void putRight(int week, int day, Ratio mean) {
            long others = 0;
            long othersValues = 0;
            long othersAhead = 0;
            long without = 0;
            long withoutAhead = 0;
            for (int player = 0; player < world.players; player++) {
                if (world.hasRound(player, week, day)) {
                    others++;
                    othersValues += world.valueOf(player, week, day, NONE);
                    othersAhead += world.sumOf(player, week, 1);
                } else if (world.hasRound(player, week, 1)) {
                    without++;
                    withoutAhead += world.sumOf(player, week, 1);
                }
            }
            // All times twice the others: so the halves and the mean of what is above are whole.
            long upper = 2 * others * othersValues + others * withoutAhead
                    + without * (2 * othersValues - othersAhead);
            mean.set(upper, 2 * others * (others + without));
        }

        void weighHour(int hour, int from, int to, Ratio worth) {
            long upper = 0;
            long lower = 0;
            for (int week = from; week <= to; week++) {
                for (int day = 0; day < DAYS && world.roundsOn(week, day) > 0; day++) {
                    long later = 0;
                    long laterValues = 0;
                    for (int player = 0; player < world.players; player++) {
                        if (world.hourOf(player, week, day) >= hour) {
                            later++;
                            laterValues += world.valueOf(player, week, day, NONE);
                        }
                    }
                    long ahead = world.roundsOn(week, day) - later;
                    long aheadValues = world.allOf(week, day, NONE) - laterValues;
                    upper += ahead * laterValues - later * aheadValues;
                    lower += ahead * later;
                }
            }
            worth.set(upper, lower);
        }

        void chargeHour(int player, int hour, int from, int to, Ratio cost) {
            long own = 0;
            long ownLater = 0;
            long all = 0;
            long allLater = 0;
            for (int one = 0; one < world.players; one++) {
                for (int week = from; week <= to; week++) {
                    for (int day = 0; day < DAYS && world.hasRound(one, week, day); day++) {
                        int later = world.hourOf(one, week, day) >= hour ? 1 : 0;
                        all++;
                        allLater += later;
                        own += one == player ? 1 : 0;
                        ownLater += one == player ? later : 0;
                    }
                }
            }
            weighHour(hour, from, to, cost);
            cost.multiply(ownLater * all - own * allLater, all);
        }

        void press(int player) {
            pressWeeks = 0;
            pressYes = 0;
            for (int week = 0; week < WEEKS; week++) {
                if (world.hasRound(player, week, DAYS - 1)) {
                    long ahead = 0;
                    for (int day = 0; day < DAYS - 1; day++) {
                        ahead += world.offOf(player, week, day, NONE);
                    }
                    pressWeeks++;
                    pressYes += 3 * world.offOf(player, week, DAYS - 1, NONE) < ahead ? 1 : 0;
                }
            }
        }

        /** Of all rows of as many yes and no as press() found WEEKS: those with as many yes. */
        long rowsOfPress() {
            long rows = 0;
            long ways = 1;
            for (int yes = 0; yes <= pressWeeks; yes++) {
                rows += yes >= pressYes ? ways : 0;
                ways = ways * (pressWeeks - yes) / (yes + 1);
            }
            return rows;
        }

        void findOther() {
            otherOne = NONE;
            looked = 0;
            for (int player = 0; player < world.players; player++) {
                press(player);
                if (pressWeeks > 0) {
                    looked++;
                    // As if of 40 WEEKS: so parts of unlike numbers of rows can be compared.
                    long rows = rowsOfPress() << WEEKS - pressWeeks;
                    if (otherOne == NONE || rows < otherRows) {
                        otherOne = player;
                        otherRows = rows;
                    }
                }
            }
        }

        int otherHundredths() {
            return (int) Math.min(100, otherRows * 100 * looked >> WEEKS);
        }

        void lookBeside(int player, Ratio mean) {
            long offs = 0;
            long many = 0;
            for (int week = 0; week < WEEKS; week++) {
                for (int day = 0; day < DAYS && world.hasRound(player, week, day); day++) {
                    int hour = world.hourOf(player, week, day);
                    for (int one = 0; one < world.players; one++) {
                        if (one != player && world.hourOf(one, week, day) == hour) {
                            offs += world.offOf(one, week, day, NONE);
                            many++;
                        }
                    }
                }
            }
            mean.set(offs, many * SHARES);
        }
    }
}
