import java.lang.reflect.Method;
import java.lang.reflect.Modifier;
import java.util.ArrayList;
import java.util.Comparator;
import java.util.List;
import java.util.Random;
import java.util.Set;

/**
 * That nothing of what was told or asked ahead is left in an object that is put back to an image of nothing: told the same
 * as a new one, it answers the same.
 */
public final class FreshTest {
    private static final Set<String> TELLING = Set.of("player", "course", "week", "round", "bet", "seed", "feed", "law", "run",
            "image", "restore", "count", "fault");
    private static final Check CHECK = new Check();
    private static final List<Method> ASKING = new ArrayList<>();

    private FreshTest() {
    }

    public static void main(String[] args) throws ReflectiveOperationException {
        for (Method method : LuckLinks.class.getDeclaredMethods()) {
            if (Modifier.isPublic(method.getModifiers()) && !TELLING.contains(method.getName())) {
                ASKING.add(method);
            }
        }
        ASKING.sort(Comparator.comparing(Method::getName));
        for (int seed = 0; seed < 40; seed++) {
            LuckLinks used = new LuckLinks();
            used.image();
            tell(used, new Random(seed + 1000), 20);
            Random dice = new Random(seed);
            for (int i = 0; i < 60; i++) {
                ask(used, used, dice);
            }
            CHECK.due(38, "restore(0)", used.restore(0), true);
            LuckLinks fresh = new LuckLinks();
            int players = 1 + seed % 12;
            tell(used, new Random(seed), players);
            tell(fresh, new Random(seed), players);
            for (int i = 0; i < 150; i++) {
                ask(used, fresh, dice);
            }
            for (int week = 0; week < 40; week++) {
                CHECK.due(38, "count after a restore", used.count(10 + week), fresh.count(10 + week));
                CHECK.due(38, "held by bets after a restore", used.held(week, 1), fresh.held(week, 1));
            }
            CHECK.due(38, "how many rounds after a restore", used.count(2), fresh.count(2));
        }
        CHECK.end("FreshTest");
    }

    private static void tell(LuckLinks x, Random dice, int players) {
        for (int i = 0; i < players; i++) {
            x.player(dice.nextInt(9) - 4, dice.nextInt(3), 0, -i);
        }
        x.course(20, 30, 30, 20);
        x.course(30, 10, 20, 30);
        // No image holds the LAW: where the text has a FAULT there is none.
        x.law(0);
        Check.law(x, LawTexts.season(dice));
        int all = (1 << players) - 1;
        for (int week = 0; week < 8; week++) {
            x.week(week, dice.nextInt(2));
            x.run(week, week % 3 == 0 ? all : dice.nextInt(all) + 1);
            x.bet(dice.nextInt(players), week, dice.nextInt(999));
        }
    }

    private static void ask(LuckLinks used, LuckLinks fresh, Random dice) throws ReflectiveOperationException {
        Method method = ASKING.get(dice.nextInt(ASKING.size()));
        Object[] numbers = new Object[method.getParameterCount()];
        for (int i = 0; i < numbers.length; i++) {
            numbers[i] = dice.nextInt(5) == 0 ? dice.nextInt(41) : dice.nextInt(10) - 1;
        }
        long got = ((Number) method.invoke(used, numbers)).longValue();
        long want = ((Number) method.invoke(fresh, numbers)).longValue();
        CHECK.due(38, method.getName() + List.of(numbers) + " after a restore", got, want);
    }
}
