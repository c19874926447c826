import java.lang.reflect.Constructor;
import java.lang.reflect.Field;
import java.lang.reflect.InvocationTargetException;
import java.lang.reflect.Method;
import java.math.BigInteger;
import java.util.Random;

/**
 * The program's own whole numbers against BigInteger: guesses of digits that are too great are so rare in
 * counts that they must be looked for here (promise 22).
 */
public final class NaturalTest {
    private static final int LIMBS = 13;
    private static final int BITS = 30;
    private static final int MASK = (1 << BITS) - 1;
    private static final int[] EDGES = {0, 1, 2, MASK, MASK - 1, 1 << BITS - 1, (1 << BITS - 1) - 1, (1 << BITS - 1) + 1};
    private static final Random RANDOM = new Random(5);
    private static final Check check = new Check("NaturalTest");

    private final Object natural;
    private final BigInteger value;

    private NaturalTest(BigInteger itsValue) throws ReflectiveOperationException {
        Class<?> type = Class.forName("Ballothall$Natural");
        Constructor<?> constructor = type.getDeclaredConstructor();
        constructor.setAccessible(true);
        natural = constructor.newInstance();
        value = itsValue;
        int[] limb = (int[]) field("limb").get(natural);
        for (int i = 0; i < LIMBS; i++) {
            limb[i] = value.shiftRight(BITS * i).intValue() & MASK;
        }
        call("trimTo", LIMBS);
        // Limbs beyond the size may hold anything.
        for (int i = (int) field("size").get(natural); i < LIMBS; i++) {
            limb[i] = RANDOM.nextInt(MASK);
        }
    }

    private Field field(String name) throws ReflectiveOperationException {
        Field field = natural.getClass().getDeclaredField(name);
        field.setAccessible(true);
        return field;
    }

    private Object call(String name, Object... arguments) throws ReflectiveOperationException {
        for (Method m : natural.getClass().getDeclaredMethods()) {
            if (m.getName().equals(name)) {
                m.setAccessible(true);
                try {
                    return m.invoke(natural, arguments);
                } catch (InvocationTargetException e) {
                    return e.getCause();
                }
            }
        }
        throw new NoSuchMethodException(name);
    }

    private BigInteger now() throws ReflectiveOperationException {
        int[] limb = (int[]) field("limb").get(natural);
        int size = (int) field("size").get(natural);
        BigInteger sum = BigInteger.ZERO;
        for (int i = size - 1; i >= 0; i--) {
            sum = sum.shiftLeft(BITS).add(BigInteger.valueOf(limb[i]));
        }
        boolean isTrim = size == 0 || limb[size - 1] != 0;
        return isTrim ? sum : sum.negate().subtract(BigInteger.ONE);
    }

    private static BigInteger any(int limbs) {
        BigInteger sum = BigInteger.ZERO;
        for (int i = 0; i < limbs; i++) {
            int limb = RANDOM.nextInt(3) == 0 ? RANDOM.nextInt(1 << BITS) : EDGES[RANDOM.nextInt(EDGES.length)];
            sum = sum.shiftLeft(BITS).add(BigInteger.valueOf(limb));
        }
        return sum;
    }

    private static void divide(BigInteger a, BigInteger b) throws ReflectiveOperationException {
        NaturalTest dividend = new NaturalTest(a);
        NaturalTest divisor = new NaturalTest(b);
        NaturalTest quotient = new NaturalTest(any(LIMBS));
        NaturalTest scratch = new NaturalTest(any(LIMBS));
        dividend.call("divide", divisor.natural, quotient.natural, scratch.natural);
        check.same(a + " / " + b, quotient.now(), a.divide(b));
        check.same(a + " % " + b, dividend.now(), a.mod(b));
        check.same("the divisor", divisor.now(), b);
    }

    private static void basics(BigInteger a, BigInteger b, int small) throws ReflectiveOperationException {
        NaturalTest sum = new NaturalTest(a);
        sum.call("add", new NaturalTest(b).natural);
        check.same(a + " + " + b, sum.now(), a.add(b));
        NaturalTest rest = new NaturalTest(a.max(b));
        rest.call("subtract", new NaturalTest(a.min(b)).natural);
        check.same(a + " - " + b, rest.now(), a.subtract(b).abs());
        check.same(a + " to " + b, new NaturalTest(a).call("compareWith", new NaturalTest(b).natural), a.compareTo(b));
        NaturalTest scaled = new NaturalTest(a);
        scaled.call("multiplySmall", small);
        check.same(a + " * " + small, scaled.now(), a.multiply(BigInteger.valueOf(small)));
        NaturalTest parted = new NaturalTest(a);
        BigInteger[] due = a.divideAndRemainder(BigInteger.valueOf(Math.max(small, 1)));
        check.same(a + " % " + small, parted.call("divideSmall", Math.max(small, 1)), due[1]);
        check.same(a + " / " + small, parted.now(), due[0]);
        check.same("is one", new NaturalTest(a).call("isOne"), a.equals(BigInteger.ONE));
        NaturalTest copy = new NaturalTest(b);
        copy.call("copyFrom", sum.natural);
        check.same("a copy", copy.now(), sum.now());
        int[] row = new int[3 * LIMBS];
        java.util.Arrays.fill(row, 7);
        copy.call("store", row, LIMBS);
        NaturalTest loaded = new NaturalTest(b);
        loaded.call("load", row, LIMBS);
        check.same("kept in a row", loaded.now(), copy.now());
        check.same("beside it", row[LIMBS - 1] + row[2 * LIMBS], 14);
    }

    public static void main(String[] arguments) throws ReflectiveOperationException {
        check.promise(22);
        for (int i = 0; i < 60000; i++) {
            int limbs = 1 + RANDOM.nextInt(11);
            BigInteger b = any(1 + RANDOM.nextInt(limbs));
            // Just below or above a multiple of the divisor the guesses go wrong most often.
            BigInteger a = i % 2 == 0 ? any(limbs) : b.multiply(any(1 + RANDOM.nextInt(2))).add(BigInteger.valueOf(i % 5 - 3));
            if (b.signum() > 0 && a.signum() >= 0 && a.bitLength() <= 11 * BITS) {
                divide(a, b);
            }
        }
        for (int i = 0; i < 5000; i++) {
            BigInteger a = any(1 + RANDOM.nextInt(11));
            BigInteger b = any(1 + RANDOM.nextInt(11));
            basics(a, i % 10 == 0 ? a : b, i % 3 == 0 ? 1 + i % 9 : RANDOM.nextInt(1 << BITS));
            BigInteger one = any(1 + RANDOM.nextInt(6));
            BigInteger other = any(1 + RANDOM.nextInt(5));
            NaturalTest product = new NaturalTest(a);
            product.call("multiply", new NaturalTest(one).natural, new NaturalTest(other).natural);
            check.same(one + " * " + other, product.now(), one.multiply(other));
            long number = RANDOM.nextLong() >>> 1 + RANDOM.nextInt(63);
            product.call("become", number);
            check.same("become", product.now(), number);
        }
        check.end();
    }
}
