import com.sun.management.ThreadMXBean;
import java.lang.management.ManagementFactory;

/** That an object keeps to a small room: all its rows are made with it, and calls make nothing. */
public final class RoomTest {
    private static final ThreadMXBean ROOM = (ThreadMXBean) ManagementFactory.getThreadMXBean();
    private static final Check CHECK = new Check();

    private RoomTest() {
    }

    public static void main(String[] args) {
        long unused = season(new LuckLinks());
        long before = taken();
        LuckLinks x = new LuckLinks();
        CHECK.due(1, "a new object's bytes stay below a million", taken() - before < 1000000, true);
        unused += season(x);
        before = taken();
        unused += x.image() + x.image() + x.image();
        CHECK.due(37, "three images' bytes stay below a million", taken() - before < 1000000, true);
        before = taken();
        for (int i = 0; i < 15; i++) {
            unused += ask(x);
        }
        CHECK.due(39, "what is asked makes no objects", taken() - before < 10000, true);
        CHECK.due(39, "it was asked", unused != 0, true);
        CHECK.end("RoomTest");
    }

    private static long taken() {
        return ROOM.getThreadAllocatedBytes(Thread.currentThread().getId());
    }

    private static long season(LuckLinks x) {
        for (int i = 0; i < 20; i++) {
            x.player(i - 10, 0, 0, 0);
        }
        x.course(20, 20, 20, 20);
        Check.law(x, "luck tee 9;luck long 9;luck short 9;luck last 9;drift tee 3;points 1 9;prize 1 99;cut 1 10;"
                + "press tee more 1 if (day=1 or not hour=3) and behind>2;hour last 1 from 6;weigh 3 2;");
        long drawn = 0;
        for (int week = 0; week < 18; week++) {
            x.week(week, 0);
            drawn += x.run(week, 0xfffff);
        }
        return drawn + ask(x);
    }

    private static long ask(LuckLinks x) {
        long sum = x.rule(200) + x.gift(0, 0) + x.score(0, 0, 0, -1) + x.place(0, 0) + x.won(0, 0, 39, 0) + x.cut(0, 1, 3);
        sum += x.luck(-1, 0, 39, 0) + x.back(1, 5, 0, 39, 1) + x.skill(0, -1, 40, 0) + x.span(0, -1, 40, 0) + x.best(40);
        sum += x.years(0) + x.odds(0, 0xfffff, 40) + x.need(1, 60) + x.lasts(-1, 0, 9, 39, 0) + x.most(0, 9, 39);
        sum += x.right(0, 2, 0) + x.listed(0, 39, 3) + x.line(5, 0, 39, 2) + x.held(17, 0) + x.held(17, 2);
        sum += x.worth(5, 0, 39, 0) + x.cost(0, 5, 0, 39, 0) + x.pressed(0, 2) + x.other(2) + x.beside(0, 0);
        sum += x.feed(0x6c75636b, 0x20746565, 0x20393b20, 0x20202020, 0x20202020) + x.law(12) + x.count(2) + x.fault();
        return sum + (x.restore(0) ? 1 : 0);
    }
}
