import java.lang.reflect.InvocationTargetException;
import java.lang.reflect.Method;
import java.lang.reflect.Modifier;
import java.util.ArrayList;
import java.util.Comparator;
import java.util.List;
import java.util.Random;

/** That no call throws, whatever its numbers are, in states that such calls make. */
public final class AnyCallTest {
    private static final int[] FAR = {Integer.MIN_VALUE, Integer.MIN_VALUE + 1, Integer.MAX_VALUE, Integer.MAX_VALUE - 1, -1, -2,
        700, 701, 1 << 20, (1 << 20) - 1, 1 << 30, 0x20202020, 99999999, 100000000, -40, 4, 12, 20, 21, 39, 40, 41, 47, 48};

    private AnyCallTest() {
    }

    public static void main(String[] args) throws IllegalAccessException {
        List<Method> face = new ArrayList<>();
        for (Method method : LuckLinks.class.getDeclaredMethods()) {
            if (Modifier.isPublic(method.getModifiers())) {
                face.add(method);
            }
        }
        face.sort(Comparator.comparing(Method::getName));
        Random dice = new Random(1);
        int made = 0;
        for (int object = 0; object < 300; object++) {
            LuckLinks x = new LuckLinks();
            for (int p = 0; p < object % 21; p++) {
                x.player(p, -p, 0, 0);
            }
            for (int week = 0; week < object % 40; week++) {
                x.course(60, 0, 30, 1);
                x.week(week, week % 6);
                x.run(week, (1 << object % 21) - 1);
            }
            for (int call = 0; call < 512; call++) {
                call(x, face.get(dice.nextInt(face.size())), dice);
                made++;
            }
        }
        System.out.println("AnyCallTest: " + made + " calls, none threw");
    }

    private static void call(LuckLinks x, Method method, Random dice) throws IllegalAccessException {
        Object[] numbers = new Object[method.getParameterCount()];
        for (int i = 0; i < numbers.length; i++) {
            int kind = dice.nextInt(10);
            numbers[i] = kind < 6 ? dice.nextInt(8) : kind < 8 ? dice.nextInt(45) - 2 : FAR[dice.nextInt(FAR.length)];
        }
        if (method.getName().equals("law") && dice.nextBoolean()) {
            Check.law(x, LawTexts.make(dice, dice.nextBoolean()));
            return;
        }
        try {
            method.invoke(x, numbers);
        } catch (InvocationTargetException thrown) {
            System.out.println(method + " of " + List.of(numbers) + " threw " + thrown.getCause());
            System.exit(1);
        }
    }
}
