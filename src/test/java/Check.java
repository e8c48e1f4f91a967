import java.util.function.IntToLongFunction;

/** What the tests share: it counts answers that are not as due, tells rounds, and puts a text on the tape. */
final class Check {
    private int wrong = 0;
    private int asked = 0;

    void due(int promise, String call, long got, long want) {
        asked++;
        if (got != want) {
            wrong++;
            System.out.println("promise " + promise + ": " + call + " answered " + got + ", due is " + want);
        }
    }

    void due(int promise, String call, boolean got, boolean want) {
        due(promise, call, got ? 1 : 0, want ? 1 : 0);
    }

    /** One number of a call, all others as they should be: only from least to most it isn't answered by none. */
    void range(int promise, String call, IntToLongFunction asked, int least, int most, long none) {
        int[] inside = {least, most};
        for (int number : inside) {
            due(promise, call + " of " + number + " has an answer", asked.applyAsLong(number) != none, true);
        }
        int[] outside = {least - 1, most + 1, Integer.MIN_VALUE, Integer.MAX_VALUE};
        for (int number : outside) {
            due(promise, call + " of " + number, asked.applyAsLong(number), none);
        }
    }

    void end(String name) {
        System.out.println(name + ": " + asked + " answers, " + wrong + " of them wrong");
        if (wrong > 0 || asked == 0) {
            System.exit(1);
        }
    }

    /** So many players, one course of no strokes, and all weeks on it. */
    static LuckLinks withPlayers(int many) {
        LuckLinks x = new LuckLinks();
        for (int i = 0; i < many; i++) {
            x.player(0, 0, 0, 0);
        }
        x.course(0, 0, 0, 0);
        for (int week = 0; week < 40; week++) {
            x.week(week, 0);
        }
        return x;
    }

    /** One round of each player on a day, at its number's hour, all strokes on the first part; below 0: none. */
    static void day(LuckLinks x, int week, int day, int... strokes) {
        for (int player = 0; player < strokes.length; player++) {
            if (strokes[player] >= 0) {
                hour(x, player, week, day, player % 12, strokes[player]);
            }
        }
    }

    /** One round; a test that tells a wrong one by mistake must not go on. */
    static void hour(LuckLinks x, int player, int week, int day, int hour, int strokes) {
        if (x.round(player, week, 12 * day + hour, strokes) < 0) {
            throw new IllegalStateException("no round of " + player + " on day " + day + " of week " + week);
        }
    }

    /** Feeds a text, blanks behind it up to the next twenty bytes. */
    static void feed(LuckLinks x, String text) {
        for (int at = 0; at < text.length(); at += 20) {
            x.feed(four(text, at), four(text, at + 4), four(text, at + 8), four(text, at + 12), four(text, at + 16));
        }
    }

    static int four(String text, int at) {
        int number = 0;
        for (int i = at; i < at + 4; i++) {
            number = number << 8 | (i < text.length() ? text.charAt(i) & 255 : ' ');
        }
        return number;
    }

    /** The text as the LAW: what law() answers. */
    static int law(LuckLinks x, String text) {
        feed(x, text);
        return x.law(text.length());
    }
}
