/** What the tests share: it counts answers that are not as due, and puts a text on the tape. */
final class Check {
    private int wrong = 0;
    private int asked = 0;

    void due(int promise, String call, long got, long want) {
        asked++;
        if (got != want) {
            wrong++;
            System.out.println("promise " + promise + ": " + call + " answered " + got + ", due is " + want);
        }
    }

    void due(int promise, String call, boolean got, boolean want) {
        due(promise, call, got ? 1 : 0, want ? 1 : 0);
    }

    void end(String name) {
        System.out.println(name + ": " + asked + " answers, " + wrong + " of them wrong");
        if (wrong > 0 || asked == 0) {
            System.exit(1);
        }
    }

    /** So many players, one course of no strokes, and all weeks on it. */
    static LuckLinks withPlayers(int many) {
        LuckLinks x = new LuckLinks();
        for (int i = 0; i < many; i++) {
            x.player(0, 0, 0, 0);
        }
        x.course(0, 0, 0, 0);
        for (int week = 0; week < 40; week++) {
            x.week(week, 0);
        }
        return x;
    }

    /** Feeds a text, blanks behind it up to the next twenty bytes. */
    static void feed(LuckLinks x, String text) {
        for (int at = 0; at < text.length(); at += 20) {
            x.feed(four(text, at), four(text, at + 4), four(text, at + 8), four(text, at + 12), four(text, at + 16));
        }
    }

    static int four(String text, int at) {
        int number = 0;
        for (int i = at; i < at + 4; i++) {
            number = number << 8 | (i < text.length() ? text.charAt(i) & 255 : ' ');
        }
        return number;
    }

    /** The text as the LAW: what law() answers. */
    static int law(LuckLinks x, String text) {
        feed(x, text);
        return x.law(text.length());
    }
}
