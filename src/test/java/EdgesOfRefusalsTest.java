import java.util.ArrayList;
import java.util.List;
import java.util.function.Consumer;

/** "doing nothing but REFUSED": a twin to which nothing wrong was told answers all else alike. */
public final class EdgesOfRefusalsTest {
    private static final Check CHECK = new Check();
    private static final String LAW = "drift tee 3;luck tee 9;luck last 2;cut 1 2;prize 1 9;prize 2 5;points 1 7;points 2 3;weigh 2 3;"
            + "hour long 2 from 1;press short more 3 if behind>0 or order=1;";

    private EdgesOfRefusalsTest() {
    }

    public static void main(String[] args) {
        reasonNotAsTold();
        reasonNoMoreRoom();
        reasonFault();
        feedIsNotRefused();
        askingIsNotRefused();
        reasonsStayWithARestore();
        CHECK.end("EdgesOfRefusalsTest");
    }

    /** Three players, two courses, three weeks told, one of them drawn, one with rounds, a bet, an image, bytes on the tape. */
    private static LuckLinks scene() {
        LuckLinks x = new LuckLinks();
        x.player(1, 2, 3, 4);
        x.player(5, 6, 7, 8);
        x.player(-1, -2, -3, -4);
        x.course(20, 21, 22, 23);
        x.course(30, 31, 32, 33);
        x.week(0, 0);
        x.week(1, 1);
        x.week(2, 0);
        x.image();
        Check.law(x, LAW);
        x.seed(12345);
        x.run(0, 7);
        x.round(0, 1, 3, 4030201);
        x.round(1, 1, 3, 14131211);
        x.bet(0, 1, 55);
        Check.law(x, LAW.substring(0, 10));
        Check.law(x, LAW);
        Check.law(x, "luck tee 1;!");
        Check.feed(x, "luck tee 2;");
        return x;
    }

    /** Scenes as full as they can be. */
    private static LuckLinks fullScene() {
        LuckLinks x = new LuckLinks();
        for (int i = 0; i < 20; i++) {
            x.player(i, -i, 0, 1);
        }
        for (int i = 0; i < 6; i++) {
            x.course(20 + i, 20, 20, 20);
        }
        for (int week = 0; week < 17; week++) {
            x.week(week, week % 6);
        }
        Check.law(x, LAW.replace("cut 1 2;", ""));
        for (int week = 2; week < 17; week++) {
            x.run(week, 0xfffff);
        }
        x.image();
        x.image();
        x.image();
        Check.law(x, LAW);
        return x;
    }

    /** What can be seen, but for the reasons. */
    private static List<Long> seen(LuckLinks x) {
        List<Long> seen = new ArrayList<>();
        for (int what = 0; what <= 4; what++) {
            seen.add((long) x.count(what));
        }
        for (int week = 0; week < 4; week++) {
            seen.add((long) x.count(10 + week));
            seen.add((long) x.held(week, 1));
            seen.add((long) x.place(1, week));
            for (int player = 0; player < 3; player++) {
                for (int day = 0; day < 4; day++) {
                    seen.add((long) x.score(player, week, day, -1));
                    seen.add((long) x.score(player, week, day, 4));
                }
            }
        }
        for (int part = 0; part < 4; part++) {
            seen.add((long) x.gift(0, part));
            seen.add((long) x.gift(2, part));
            seen.add((long) x.rule(part));
            seen.add((long) x.rule(10 + part));
            seen.add(x.skill(0, part, 40, 0));
        }
        seen.add((long) x.rule(200));
        seen.add((long) x.fault());
        // The tape and z: what a law of it and a draw by it bring.
        seen.add((long) x.law(x.count(3) == 0 ? 0 : 11));
        seen.add((long) x.rule(10));
        Check.law(x, "luck tee 9;luck long 9;drift last 9;");
        seen.add((long) x.run(2, 3));
        for (int day = 0; day < 4; day++) {
            seen.add((long) x.score(0, 2, day, 0));
            seen.add((long) x.score(1, 2, day, 1));
        }
        seen.add((long) x.gift(1, 3));
        x.restore(0);
        seen.add((long) x.count(0));
        seen.add((long) x.count(2));
        return seen;
    }

    private static void alike(int promise, String told, LuckLinks x, LuckLinks twin) {
        CHECK.due(promise, told + " did nothing", seen(x).equals(seen(twin)), true);
    }

    /** Tells something wrong and looks that one reason, and nothing else, is counted. */
    private static void refused(int promise, String told, boolean isFull, int reason, Consumer<LuckLinks> wrong) {
        LuckLinks x = isFull ? fullScene() : scene();
        int[] ahead = {x.count(5), x.count(6), x.count(7)};
        wrong.accept(x);
        for (int i = 0; i < 3; i++) {
            CHECK.due(promise, told + ", reason " + i, x.count(5 + i), ahead[i] + (i == reason ? 1 : 0));
        }
        alike(promise, told, x, isFull ? fullScene() : scene());
    }

    /** "0 not as told". */
    private static void reasonNotAsTold() {
        refused(2, "player(21, 0, 0, 0)", false, 0, x -> CHECK.due(2, "player", x.player(21, 0, 0, 0), -1));
        refused(2, "player(0, 0, 0, -21)", false, 0, x -> CHECK.due(2, "player", x.player(0, 0, 0, -21), -1));
        refused(3, "course(61, 0, 0, 0)", false, 0, x -> CHECK.due(3, "course", x.course(61, 0, 0, 0), -1));
        refused(3, "course(0, 0, 0, -1)", false, 0, x -> CHECK.due(3, "course", x.course(0, 0, 0, -1), -1));
        refused(4, "week(0, 1)", false, 0, x -> CHECK.due(4, "week", x.week(0, 1), false));
        refused(4, "week(40, 0)", false, 0, x -> CHECK.due(4, "week", x.week(40, 0), false));
        refused(4, "week(3, 2)", false, 0, x -> CHECK.due(4, "week", x.week(3, 2), false));
        refused(5, "round(0, 1, 4, 5)", false, 0, x -> CHECK.due(5, "round", x.round(0, 1, 4, 5), -1));
        refused(5, "round(0, 1, 24, 5)", false, 0, x -> CHECK.due(5, "round", x.round(0, 1, 24, 5), -1));
        refused(5, "round(0, 3, 0, 5)", false, 0, x -> CHECK.due(5, "round", x.round(0, 3, 0, 5), -1));
        refused(5, "round(2, 1, 0, -1)", false, 0, x -> CHECK.due(5, "round", x.round(2, 1, 0, -1), -1));
        refused(5, "round(3, 1, 0, 5)", false, 0, x -> CHECK.due(5, "round", x.round(3, 1, 0, 5), -1));
        refused(6, "bet(0, 1, 10000)", false, 0, x -> CHECK.due(6, "bet", x.bet(0, 1, 10000), false));
        refused(6, "bet(3, 1, 0)", false, 0, x -> CHECK.due(6, "bet", x.bet(3, 1, 0), false));
        refused(6, "bet(0, 40, 0)", false, 0, x -> CHECK.due(6, "bet", x.bet(0, 40, 0), false));
        refused(7, "seed(-1)", false, 0, x -> CHECK.due(7, "seed", x.seed(-1), false));
        refused(7, "seed(1000000000)", false, 0, x -> CHECK.due(7, "seed", x.seed(1000000000), false));
        refused(9, "law(-1)", false, 0, x -> CHECK.due(9, "law", x.law(-1), -2));
        refused(9, "law(21)", false, 0, x -> CHECK.due(9, "law", x.law(21), -2));
        refused(12, "run(0, 7)", false, 0, x -> CHECK.due(12, "run", x.run(0, 7), -1));
        refused(12, "run(1, 4)", false, 0, x -> CHECK.due(12, "run", x.run(1, 4), -1));
        refused(12, "run(2, 0)", false, 0, x -> CHECK.due(12, "run", x.run(2, 0), -1));
        refused(12, "run(2, 8)", false, 0, x -> CHECK.due(12, "run", x.run(2, 8), -1));
        refused(12, "run(3, 1)", false, 0, x -> CHECK.due(12, "run", x.run(3, 1), -1));
        refused(38, "restore(1)", false, 0, x -> CHECK.due(38, "restore", x.restore(1), false));
        refused(38, "restore(-1)", false, 0, x -> CHECK.due(38, "restore", x.restore(-1), false));
        refused(2, "a 21st player, not as told", true, 0, x -> CHECK.due(2, "player", x.player(21, 0, 0, 0), -1));
        refused(3, "a 7th course, not as told", true, 0, x -> CHECK.due(3, "course", x.course(61, 0, 0, 0), -1));
        refused(5, "the 1,201st round, not as told", true, 0, x -> CHECK.due(5, "round", x.round(0, 0, 12, 0), -1));
        refused(12, "a run of nobody", true, 0, x -> CHECK.due(12, "run", x.run(0, 0), -1));
        refused(38, "restore(3)", true, 0, x -> CHECK.due(38, "restore", x.restore(3), false));
    }

    /** "1 no more room (if they are as told)". */
    private static void reasonNoMoreRoom() {
        refused(2, "a 21st player", true, 1, x -> CHECK.due(2, "player", x.player(0, 0, 0, 0), -1));
        refused(3, "a 7th course", true, 1, x -> CHECK.due(3, "course", x.course(0, 0, 0, 0), -1));
        refused(5, "the 1,201st round", true, 1, x -> CHECK.due(5, "round", x.round(0, 0, 0, 0), -1));
        refused(12, "a run that passes 1,200", true, 1, x -> CHECK.due(12, "run", x.run(0, 1), -1));
        refused(37, "a 4th image", true, 1, x -> CHECK.due(37, "image", x.image(), -1));
    }

    /** "2 a FAULT": the tape is empty then, and its place is told; all else stays. */
    private static void reasonFault() {
        LuckLinks x = scene();
        CHECK.due(9, "the fault told ahead", x.count(7), 2);
        CHECK.due(9, "one more", x.law(12 - 2), -1);
        CHECK.due(9, "reason 2", x.count(7), 3);
        CHECK.due(9, "not reason 0", x.count(5), 0);
        CHECK.due(9, "not reason 1", x.count(6), 0);
        CHECK.due(9, "the tape is empty", x.count(3), 0);
        CHECK.due(10, "its place", x.fault(), 10);
        LuckLinks twin = scene();
        twin.law(10);
        alike(9, "a FAULT", x, twin);
        CHECK.due(9, "the law there was", scene().rule(200), 11);
    }

    /** "NONE, doing nothing (not REFUSED)". */
    private static void feedIsNotRefused() {
        LuckLinks x = scene();
        LuckLinks twin = scene();
        for (int i = 1; i < 35; i++) {
            x.feed(0x20202020, 0x20202020, 0x20202020, 0x20202020, 0x20202020);
            twin.feed(0x20202020, 0x20202020, 0x20202020, 0x20202020, 0x20202020);
        }
        int refused = x.count(5) + x.count(6) + x.count(7);
        CHECK.due(8, "feed beyond 700", x.feed(1, 2, 3, 4, 5), -1);
        CHECK.due(8, "not refused", x.count(5) + x.count(6) + x.count(7), refused);
        alike(8, "feed", x, twin);
    }

    /** "calls that tell something and don't do it": those that ask are none of them, and change nothing. */
    private static void askingIsNotRefused() {
        LuckLinks x = scene();
        int refused = x.count(5) + x.count(6) + x.count(7);
        int[] wrong = {-2, 50, Integer.MIN_VALUE, Integer.MAX_VALUE};
        for (int w : wrong) {
            x.rule(w);
            x.gift(w, w);
            x.score(w, w, w, w);
            x.place(w, w);
            x.won(w, w, w, w);
            x.cut(w, w, w);
            x.luck(w, w, w, w);
            x.back(w, w, w, w, w);
            x.skill(w, w, w, w);
            x.span(w, w, w, w);
            x.best(w);
            x.years(w);
            x.odds(w, w, w);
            x.need(w, w);
            x.lasts(w, w, w, w, w);
            x.most(w, w, w);
            x.right(w, w, w);
            x.listed(w, w, w);
            x.line(w, w, w, w);
            x.held(w, w);
            x.worth(w, w, w, w);
            x.cost(w, w, w, w, w);
            x.pressed(w, w);
            x.other(w);
            x.beside(w, w);
            x.count(w);
        }
        CHECK.due(39, "not refused", x.count(5) + x.count(6) + x.count(7), refused);
        alike(39, "asking", x, scene());
    }

    /** "all but the LAW, the tape, its FAULT, REFUSED". */
    private static void reasonsStayWithARestore() {
        LuckLinks x = scene();
        x.seed(-1);
        x.seed(-1);
        x.image();
        x.image();
        x.image();
        int[] want = {2, 1, 2};
        for (int i = 0; i < 3; i++) {
            CHECK.due(39, "reason " + i, x.count(5 + i), want[i]);
        }
        CHECK.due(38, "restore", x.restore(0), true);
        for (int i = 0; i < 3; i++) {
            CHECK.due(38, "reason " + i + " stays", x.count(5 + i), want[i]);
        }
        CHECK.due(38, "the law stays", x.rule(200), 11);
        CHECK.due(38, "the tape stays", x.count(3), 20);
        CHECK.due(38, "the fault stays", x.fault(), 11);
        CHECK.due(38, "the images stay", x.count(4), 3);
    }
}
