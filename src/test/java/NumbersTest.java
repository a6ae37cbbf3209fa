import java.lang.reflect.Method;
import java.util.Random;

/**
 * The ways between doubles and their bits, and the square root, against the library's. They are private, and the
 * calls of the face reach but few numbers with them, so that they are taken by name.
 */
public final class NumbersTest {
    private static int wrong = 0;

    private NumbersTest() {
    }

    private static void due(String what, long got, long want) {
        if (got != want && wrong < 20) {
            wrong++;
            System.out.println(what + ": " + Long.toHexString(got) + ", due is " + Long.toHexString(want));
        }
    }

    private static Method method(String name, Class<?> type) throws ReflectiveOperationException {
        Method m = Class.forName("WindPark$Numbers").getDeclaredMethod(name, type);
        m.setAccessible(true);
        return m;
    }

    public static void main(String[] args) throws ReflectiveOperationException {
        Method valueOf = method("valueOf", long.class);
        Method bitsOf = method("bitsOf", double.class);
        Method widened = method("widened", int.class);
        Method rootOf = method("rootOf", double.class);
        Random random = new Random(5);
        for (int i = 0; i < 600000; i++) {
            long bits = someBits(random, i);
            double d = Double.longBitsToDouble(bits);
            if (!Double.isNaN(d)) {
                double value = (Double) valueOf.invoke(null, bits);
                due("value of " + bits, Double.doubleToRawLongBits(value), bits);
                due("bits of " + d, (Long) bitsOf.invoke(null, d), bits);
            }
            if (d >= Double.MIN_NORMAL && d <= Double.MAX_VALUE) {
                double root = (Double) rootOf.invoke(null, d);
                due("root of " + d, Double.doubleToRawLongBits(root), Double.doubleToRawLongBits(Math.sqrt(d)));
            }
            int floatBits = (int) (i < 300000 ? bits >> 32 : random.nextInt());
            float f = Float.intBitsToFloat(floatBits);
            due("double of " + f, (Long) widened.invoke(null, floatBits), Double.doubleToLongBits(f));
        }
        due("root of 0.0", Double.doubleToRawLongBits((Double) rootOf.invoke(null, 0.0)), 0L);
        System.out.println(wrong == 0 ? "the numbers are as the library's" : "numbers are wrong");
        if (wrong != 0) {
            System.exit(1);
        }
    }

    /** Of every exponent: few digits, all digits, and any. */
    private static long someBits(Random random, int i) {
        long exponent = (long) (i % 2048) << 52;
        long sign = random.nextBoolean() ? 1L << 63 : 0L;
        long digits = random.nextLong() & 0xFFFFFFFFFFFFFL;
        switch (random.nextInt(4)) {
            case 0: return sign | exponent | 1L << random.nextInt(52);
            case 1: return sign | exponent | 0xFFFFFFFFFFFFFL >> random.nextInt(52);
            case 2: return sign | exponent | digits >> random.nextInt(52);
            default: return exponent | digits;
        }
    }
}
