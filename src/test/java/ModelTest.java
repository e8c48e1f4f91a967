import java.util.Random;

/** Runs of calls by fixed seeds on the class and on the Model: each answer must be the same. */
public final class ModelTest {
    private static final int CALLS = 512;
    private final Random dice;
    private final int big;
    private final LuckLinks x = new LuckLinks();
    private final Model m = new Model();
    private String call = "";
    private int made = 0;

    private ModelTest(long seed) {
        dice = new Random(seed);
        big = (int) (seed % 4);
    }

    public static void main(String[] args) {
        int seeds = args.length > 0 ? Integer.parseInt(args[0]) : 60;
        int first = args.length > 1 ? Integer.parseInt(args[1]) : 0;
        int wrong = 0;
        for (int seed = first; seed < first + seeds; seed++) {
            wrong += new ModelTest(seed).agrees(seed) ? 0 : 1;
        }
        System.out.println("ModelTest: " + seeds + " runs, " + wrong + " of them wrong");
        if (wrong > 0) {
            System.exit(1);
        }
    }

    private boolean agrees(int seed) {
        boolean isSame = big != 3 || playSeason();
        while (isSame && made < CALLS) {
            isSame = step();
        }
        if (!isSame) {
            System.out.println("seed " + seed + ", call " + made + ": " + call);
        }
        return isSame;
    }

    /** Many drawn WEEKS under a LAW of all kinds of RULES, so that what is asked then finds much. */
    private boolean playSeason() {
        boolean isSame = true;
        int players = 2 + dice.nextInt(19);
        for (int i = 0; i < players && isSame; i++) {
            isSame = tell(0);
        }
        for (int i = 0; i < 6 && isSame; i++) {
            isSame = tell(1);
        }
        isSame = isSame && feedLaw(LawTexts.season(dice));
        int weeks = 5 + dice.nextInt(35);
        for (int i = 0; i < weeks && isSame; i++) {
            made += 2;
            int week = dice.nextInt(10) == 0 ? dice.nextInt(40) : i;
            int course = dice.nextInt(6);
            int field = dice.nextInt(3) == 0 ? oneField() : (1 << m.s.gifts.size()) - 1;
            isSame = same("week", x.week(week, course), m.week(week, course))
                    && same("run", x.run(week, field), m.run(week, field));
        }
        return isSame;
    }

    /** From least to most; now and then one that is just outside, or far away. */
    private int some(int least, int most) {
        int luck = dice.nextInt(100);
        if (luck == 0) {
            return least - 1;
        }
        if (luck == 1) {
            return most + 1;
        }
        if (luck == 2) {
            int[] far = {Integer.MIN_VALUE, Integer.MAX_VALUE, -1000, 1000, 1 << 31, -2};
            return far[dice.nextInt(far.length)];
        }
        return least + dice.nextInt(most - least + 1);
    }

    private int onePlayer() {
        return some(0, Math.max(0, m.s.gifts.size() - 1));
    }

    private int oneWeek() {
        return some(0, big == 0 || big == 3 ? 39 : 9);
    }

    private int oneField() {
        int all = (1 << m.s.gifts.size()) - 1;
        int luck = dice.nextInt(20);
        if (luck == 0) {
            return dice.nextInt();
        }
        return luck < 8 ? all : dice.nextInt(all + 1);
    }

    private int strokes() {
        int[] parts = new int[4];
        for (int i = 0; i < 4; i++) {
            parts[i] = dice.nextInt(8) == 0 ? dice.nextInt(100) : 10 + dice.nextInt(4);
        }
        return dice.nextInt(50) == 0 ? some(0, 99999999)
                : parts[0] + 100 * parts[1] + 10000 * parts[2] + 1000000 * parts[3];
    }

    private boolean step() {
        made++;
        if (big == 3) {
            int luck = dice.nextInt(40);
            return luck == 0 ? tell(dice.nextInt(12)) : luck < 3 ? tellRounds() : luck == 3 ? tell(6) : ask(dice.nextInt(27));
        }
        if (made < 20) {
            return tell(dice.nextInt(made < 12 ? 3 : 4));
        }
        int luck = dice.nextInt(10);
        if (luck < 4) {
            return tell(dice.nextInt(12));
        }
        return ask(dice.nextInt(27));
    }

    private boolean same(String what, long got, long want) {
        call = what + " answered " + got + ", the model " + want;
        return got == want;
    }

    private boolean same(String what, boolean got, boolean want) {
        return same(what, got ? 1 : 0, want ? 1 : 0);
    }

    private boolean tell(int kind) {
        int a = 0;
        switch (kind) {
            case 0: {
                int[] g = {some(-20, 20), some(-3, 3), some(-3, 3), some(-20, 20)};
                return same("player", x.player(g[0], g[1], g[2], g[3]), m.player(g[0], g[1], g[2], g[3]));
            }
            case 1: {
                int[] g = {some(0, 60), some(5, 15), some(0, 30), some(0, 60)};
                return same("course", x.course(g[0], g[1], g[2], g[3]), m.course(g[0], g[1], g[2], g[3]));
            }
            case 2: {
                int week = oneWeek();
                int course = some(0, Math.max(0, m.s.courses.size() - 1));
                return same("week", x.week(week, course), m.week(week, course));
            }
            case 3: {
                int week = oneWeek();
                int field = oneField();
                return same("run " + week + " " + field, x.run(week, field), m.run(week, field));
            }
            case 4:
            case 5:
                return tellRounds();
            case 6: {
                int p = onePlayer();
                int week = oneWeek();
                int v = dice.nextBoolean() ? some(-9999, 9999) : some(-300, 300);
                return same("bet", x.bet(p, week, v), m.bet(p, week, v));
            }
            case 7:
                a = some(0, 999999999);
                return same("seed", x.seed(a), m.seed(a));
            case 8:
            case 9:
                return tellLaw();
            case 10:
                return dice.nextInt(4) > 0 || same("image", x.image(), m.image());
            default:
                a = some(0, 2);
                return dice.nextInt(6) > 0 || same("restore", x.restore(a), m.restore(a));
        }
    }

    private boolean tellRounds() {
        int week = oneWeek();
        int hours = 1 + dice.nextInt(12);
        for (int i = 0; i < 12 && made < CALLS; i++) {
            made++;
            int p = onePlayer();
            int day = 0;
            while (day < 3 && m.score(p, week, day, -1) >= 0) {
                day++;
            }
            int time = dice.nextInt(12) == 0 ? some(0, 47) : day * 12 + dice.nextInt(hours);
            int strokes = strokes();
            if (!same("round", x.round(p, week, time, strokes), m.round(p, week, time, strokes))) {
                return false;
            }
        }
        return true;
    }

    private boolean tellLaw() {
        return feedLaw(big == 3 ? LawTexts.season(dice) : LawTexts.make(dice, big == 2));
    }

    private boolean feedLaw(String text) {
        for (int at = 0; at < text.length() && made < CALLS; at += 20) {
            made++;
            int[] n = new int[5];
            for (int i = 0; i < 5; i++) {
                n[i] = Check.four(text, at + 4 * i);
            }
            if (!same("feed", x.feed(n[0], n[1], n[2], n[3], n[4]), m.feed(n))) {
                return false;
            }
        }
        int n = dice.nextInt(8) == 0 ? some(0, m.tape.length()) : Math.min(text.length(), m.tape.length());
        String told = "law " + n + " of " + m.tape;
        return same(told, x.law(n), m.law(n)) && same(told + ": fault", x.fault(), m.fault);
    }

    private boolean ask(int kind) {
        int p = onePlayer();
        int part = some(-1, 3);
        int week = dice.nextInt(4) == 0 ? some(0, 40) : oneWeek();
        int from = dice.nextInt(3) == 0 ? 0 : oneWeek();
        int to = dice.nextInt(3) == 0 ? 39 : dice.nextInt(3) == 0 ? oneWeek() : Math.min(39, Math.max(0, from) + dice.nextInt(6));
        int what = some(0, 1);
        int what2 = some(0, 2);
        String args = " " + p + " " + part + " " + week + " " + from + " " + to + " " + what + " " + what2;
        switch (kind) {
            case 0: {
                int w = dice.nextBoolean() ? dice.nextInt(220) - 5 : some(0, 13);
                return same("rule " + w, x.rule(w), m.rule(w));
            }
            case 1:
                return same("gift" + args, x.gift(p, part), m.gift(p, part));
            case 2: {
                int day = some(0, 3);
                int column = some(-1, 4);
                return same("score" + args, x.score(p, week, day, column), m.score(p, week, day, column));
            }
            case 3:
                return same("place" + args, x.place(p, week), m.place(p, week));
            case 4:
                return same("won" + args, x.won(p, from, to, what), m.won(p, from, to, what));
            case 5: {
                int day = some(0, 2);
                int w = some(0, 3);
                return same("cut" + args, x.cut(week, day, w), m.cut(week, day, w));
            }
            case 6:
                return same("luck" + args, x.luck(part, from, to, what), m.luck(part, from, to, what));
            case 7: {
                int day = some(0, 2);
                int k = some(1, 20);
                return same("back" + args, x.back(day, k, from, to, what2), m.back(day, k, from, to, what2));
            }
            case 8:
                return same("skill" + args, x.skill(p, part, week, what), m.skill(p, part, week, what));
            case 9:
                return same("span" + args, x.span(p, part, week, what), m.span(p, part, week, what));
            case 10:
                return same("best" + args, x.best(week), m.best(week));
            case 11:
                return dice.nextInt(4) > 0 || same("years" + args, x.years(p), m.years(p));
            case 12: {
                int field = oneField() | (p >= 0 && dice.nextInt(10) > 0 ? 1 << p : 0);
                return same("odds" + args + " " + field, x.odds(p, field, week), m.odds(p, field, week));
            }
            case 13: {
                int d = dice.nextBoolean() ? some(1, 40) : some(1, 4);
                int h = some(1, 100);
                return dice.nextInt(4) > 0 || same("need " + d + " " + h, x.need(d, h), m.need(d, h));
            }
            case 14: {
                int half = dice.nextInt(10) == 0 ? oneWeek() : from + 1 + dice.nextInt(3);
                return same("lasts" + args + half, x.lasts(part, from, half, to, what2), m.lasts(part, from, half, to, what2));
            }
            case 15: {
                int half = dice.nextInt(10) == 0 ? oneWeek() : from + 1 + dice.nextInt(3);
                return same("most" + args + half, x.most(from, half, to), m.most(from, half, to));
            }
            default:
                return askMore(kind, p, week, from, to, what, what2);
        }
    }

    private boolean askMore(int kind, int p, int week, int from, int to, int what, int what2) {
        String args = " " + p + " " + week + " " + from + " " + to + " " + what + " " + what2;
        switch (kind) {
            case 16: {
                int day = some(2, 3);
                return same("right" + args + day, x.right(week, day, what), m.right(week, day, what));
            }
            case 17:
                return same("listed" + args, x.listed(from, to, p), m.listed(from, to, p));
            case 18: {
                int k = some(1, 20);
                return same("line" + args + k, x.line(k, from, to, what2), m.line(k, from, to, what2));
            }
            case 19:
            case 20: {
                int w = some(0, 4);
                return same("held" + args + w, x.held(week, w), m.held(week, w));
            }
            case 21: {
                int hour = some(1, 11);
                return same("worth" + args, x.worth(hour, from, to, what), m.worth(hour, from, to, what));
            }
            case 22: {
                int hour = some(1, 11);
                return same("cost" + args, x.cost(p, hour, from, to, what), m.cost(p, hour, from, to, what));
            }
            case 23:
                return same("pressed" + args, x.pressed(p, what2), m.pressed(p, what2));
            case 24:
                return same("other" + args, x.other(what2), m.other(what2));
            case 25:
                return same("beside" + args, x.beside(p, what), m.beside(p, what));
            default: {
                int w = dice.nextBoolean() ? dice.nextInt(56) - 3 : some(0, 7);
                return same("count " + w, x.count(w), m.count(w)) && same("fault", x.fault(), m.fault);
            }
        }
    }
}
