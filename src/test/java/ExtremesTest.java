import java.lang.reflect.Method;
import java.util.Arrays;
import java.util.Random;

/** No call may throw, whatever it is given, in any state; what is refused changes nothing. */
public final class ExtremesTest {
    private static final int[] NUMBERS = {Integer.MIN_VALUE, Integer.MIN_VALUE + 1, -1000000001, -65536, -2, -1, 0, 1, 2, 6, 7, 8, 15, 16, 17, 20,
        31, 32, 33, 39, 40, 41, 63, 64, 95, 96, 97, 98, 99, 100, 191, 192, 193, 240, 255, 256, 65536, 1000000, Integer.MAX_VALUE - 1, Integer.MAX_VALUE};
    private static final String[] INNS = {"", "b0 0 0;", "b1 9 127;" + "d40 20 100;".repeat(7) + "s95 1;s72 24;g95 40;g0 0;g1 1;n16;n1;",
        "b1 2 2;d2 3 50;d3 5 90;d4 20 10;d1 2 100;s4 3;g8 3;g20 0;n2;n4;n9;"};

    public static void main(String[] args) throws Exception {
        Method[] calls = Arrays.stream(BellRope.class.getDeclaredMethods())
            .filter(m -> java.lang.reflect.Modifier.isPublic(m.getModifiers()))
            .sorted((a, b) -> a.getName().compareTo(b.getName())).toArray(Method[]::new);
        Checks.part("extremes");
        for (String inn : INNS) {
            every(inn, calls);
        }
        for (int run = 0; run < 400; run++) {
            chance(new Random(run), calls);
        }
        Checks.end();
    }

    /** Every call with all these numbers, on one object that goes on. */
    private static void every(String inn, Method[] calls) throws Exception {
        BellRope x = Checks.open(inn);
        for (Method call : calls) {
            int many = call.getParameterCount();
            for (int a : many > 0 ? NUMBERS : new int[1]) {
                for (int b : many > 1 ? NUMBERS : new int[1]) {
                    one(x, call, a, b);
                }
            }
        }
    }

    private static void chance(Random chance, Method[] calls) throws Exception {
        BellRope x = Checks.open(INNS[chance.nextInt(INNS.length)]);
        for (int i = 0; i < 512; i++) {
            Method call = calls[chance.nextInt(calls.length)];
            if (!call.getName().equals("inn") || chance.nextInt(20) == 0) {
                one(x, call, NUMBERS[chance.nextInt(NUMBERS.length)], NUMBERS[chance.nextInt(NUMBERS.length)]);
            }
        }
    }

    private static void one(BellRope x, Method call, int a, int b) throws Exception {
        int many = call.getParameterCount();
        int[] ahead = state(x);
        Object answer = many == 0 ? call.invoke(x) : many == 1 ? call.invoke(x, a) : call.invoke(x, a, b);
        int told = (Integer) answer;
        if (told <= BellRope.UNKNOWN) {
            Checks.due(told >= BellRope.FULL, call + " answered " + told);
            Checks.due(Arrays.equals(ahead, state(x)), call + " of " + a + ", " + b + " was refused and changed something");
        }
    }

    private static int[] state(BellRope x) {
        int[] row = new int[17 + 14 + 2];
        for (int i = 0; i < 17; i++) {
            row[i] = x.told(i);
        }
        for (int d = 0; d < 7; d++) {
            row[17 + 2 * d] = x.drinker(d, 4);
            row[18 + 2 * d] = x.drinker(d, 5);
        }
        row[31] = x.logged(0, 0);
        row[32] = x.judge();
        return row;
    }
}
