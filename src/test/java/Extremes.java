import java.lang.reflect.Method;
import java.lang.reflect.Modifier;
import java.util.ArrayList;
import java.util.Comparator;
import java.util.List;

/** No call throws, whatever its arguments, and no more of anything is kept than the document allows. */
public final class Extremes {
    private static final int[] NUMBERS = {Integer.MIN_VALUE, Integer.MIN_VALUE + 1, -1000, -2, -1, 0, 1, 2, 3, 4, 5, 6, 7, 8, 9,
        10, 13, 14, 15, 16, 23, 96, 97, 100, 120, 150, 167, 168, 500, 999, 1000, 9599, 9999, 10000, 99999, 1023, 1024,
        0x66726565, 0x3b667265, Integer.MAX_VALUE - 1, Integer.MAX_VALUE};
    private static long seed = 7;

    private static int dice(int n) {
        seed = seed * 6364136223846793005L + 1442695040888963407L;
        return (int) ((seed >>> 33) % n);
    }

    private static int number() {
        return dice(3) == 0 ? NUMBERS[dice(NUMBERS.length)] : NUMBERS[3 + dice(13)];
    }

    private static List<Method> calls() {
        List<Method> calls = new ArrayList<>();
        for (Method m : CliffWater.class.getDeclaredMethods()) {
            if (Modifier.isPublic(m.getModifiers())) {
                calls.add(m);
            }
        }
        calls.sort(Comparator.comparing(Method::getName));
        return calls;
    }

    private static Object[] arguments(Method m) {
        Class<?>[] kinds = m.getParameterTypes();
        Object[] all = new Object[kinds.length];
        for (int i = 0; i < all.length; i++) {
            all[i] = kinds[i] == boolean.class ? (Object) (dice(2) == 0) : (Object) number();
        }
        return all;
    }

    public static void main(String[] args) throws Exception {
        List<Method> calls = calls();
        int[] most = {10, 14, 120, 9599, 99, 14, 2400, 16, 150, 14, 100};
        boolean wrong = false;
        for (int run = 0; run < 400 && !wrong; run++) {
            CliffWater x = new CliffWater();
            for (int i = 0; i < 512 - most.length; i++) {
                Method m = dice(4) == 0 ? calls.get(dice(calls.size())) : calls.get((i + dice(2)) % calls.size());
                m.invoke(x, arguments(m));
            }
            for (int what = 0; what < most.length; what++) {
                int is = x.count(what);
                if (is < 0 || is > most[what]) {
                    System.out.println("run " + run + ": count(" + what + ") answered " + is);
                    wrong = true;
                }
            }
        }
        System.out.println(wrong ? "more than the document allows" : "no call threw");
        if (wrong) {
            System.exit(1);
        }
    }
}
