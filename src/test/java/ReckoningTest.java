import java.lang.reflect.Constructor;
import java.lang.reflect.Method;
import java.math.BigInteger;
import java.util.Arrays;
import java.util.Random;

/**
 * The hash and the curve inside OnionNet, by reflection: what lies at the edges of their numbers
 * comes up too rarely in runs of calls.
 */
public final class ReckoningTest {
    private static final Due DUE = new Due();
    private static final BigInteger P = BigInteger.ONE.shiftLeft(255).subtract(BigInteger.valueOf(19));

    private ReckoningTest() {
    }

    public static void main(String[] args) throws ReflectiveOperationException {
        published();
        points();
        reduced();
        hashes();
        DUE.end();
    }

    private static Object made(String name) throws ReflectiveOperationException {
        Constructor<?> constructor = Class.forName("OnionNet$" + name).getDeclaredConstructor();
        constructor.setAccessible(true);
        return constructor.newInstance();
    }

    private static Object call(Object on, String name, Object... args) throws ReflectiveOperationException {
        for (Method method : on.getClass().getDeclaredMethods()) {
            if (method.getName().equals(name)) {
                method.setAccessible(true);
                return method.invoke(on, args);
            }
        }
        throw new NoSuchMethodException(name);
    }

    private static int[] ints(byte[] row) {
        int[] wide = new int[row.length];
        for (int i = 0; i < row.length; i++) {
            wide[i] = row[i] & 255;
        }
        return wide;
    }

    private static byte[] hex(String text) {
        byte[] row = new byte[text.length() / 2];
        for (int i = 0; i < row.length; i++) {
            row[i] = (byte) Integer.parseInt(text.substring(2 * i, 2 * i + 2), 16);
        }
        return row;
    }

    private static byte[] little(BigInteger value) {
        byte[] row = new byte[32];
        for (int i = 0; i < 32; i++) {
            row[i] = value.shiftRight(8 * i).byteValue();
        }
        return row;
    }

    private static int[] product(byte[] scalar, byte[] point) throws ReflectiveOperationException {
        int[] row = Arrays.copyOf(ints(point), 40);
        call(made("Curve"), "times", ints(scalar), row, 0, row, 8);
        return Arrays.copyOfRange(row, 8, 40);
    }

    private static void published() throws ReflectiveOperationException {
        String[][] vectors = {
            {"a546e36bf0527c9d3b16154b82465edd62144c0ac1fc5a18506a2244ba449ac4",
                "e6db6867583030db3594c1a424b15f7c726624ec26b3353b10a903a6d0ab1c4c",
                "c3da55379de9c6908e94ea4df28d084f32eccf03491c71f754b4075577a28552"},
            {"4b66e9d4d1b4673c5ad22691957d6af5c11b6421e0ea01d42ca4169e7918ba0d",
                "e5210f12786811d3f4b7959d0538ae2c31dbe7106fc03c3efc4cd549c715a493",
                "95cbde9476e8907d7aade45cb4b873f88b595a68799fa152e6f8f7647aac7957"}};
        for (String[] vector : vectors) {
            DUE.yes("RFC 7748", Arrays.equals(product(hex(vector[0]), hex(vector[1])), ints(hex(vector[2]))));
        }
        byte[] k = Crypto.base();
        byte[] u = Crypto.base();
        for (int i = 0; i < 1000; i++) {
            int[] next = product(k, u);
            u = k;
            k = new byte[32];
            for (int j = 0; j < 32; j++) {
                k[j] = (byte) next[j];
            }
        }
        DUE.yes("RFC 7748 after 1000 rounds", Arrays.equals(k,
                hex("684cf59ba83309552800ef566f2f4d3c1c3887c49360e3875f2eb94d99532c51")));
    }

    private static void points() throws ReflectiveOperationException {
        Random random = new Random(1);
        BigInteger top = BigInteger.ONE.shiftLeft(256).subtract(BigInteger.ONE);
        BigInteger[] edges = {BigInteger.ZERO, BigInteger.ONE, BigInteger.TWO, P.subtract(BigInteger.ONE), P,
            P.add(BigInteger.ONE), top.shiftRight(1), top, BigInteger.ONE.shiftLeft(255), BigInteger.valueOf(9).add(P)};
        for (int i = 0; i < 200; i++) {
            byte[] scalar = new byte[32];
            byte[] point = new byte[32];
            random.nextBytes(scalar);
            random.nextBytes(point);
            if (i < 5 * edges.length) {
                point = little(edges[i % edges.length]);
            }
            if (i % 7 == 0) {
                Arrays.fill(scalar, (byte) (i % 2 == 0 ? 0 : 255));
            }
            DUE.yes("point " + i, Arrays.equals(product(scalar, point), ints(Crypto.curve(scalar, point))));
        }
    }

    private static BigInteger value(long[] limbs) {
        BigInteger sum = BigInteger.ZERO;
        for (int i = 0; i < 10; i++) {
            sum = sum.add(BigInteger.valueOf(limbs[i]).shiftLeft((51 * i + 1) / 2));
        }
        return sum;
    }

    /** Limbs as products leave them: the second one may be somewhat out of its bits, both ways. */
    private static void reduced() throws ReflectiveOperationException {
        long[] second = {-(1 << 16), -1, 0, 1, (1 << 25) - 1, 1 << 25, (1 << 25) + (1 << 16)};
        int[] rest = {0, 1};
        for (int first = -20; first < 21; first++) {
            for (long one : second) {
                for (int all : rest) {
                    long[] limbs = new long[10];
                    for (int i = 0; i < 10; i++) {
                        limbs[i] = all * ((1L << 26 - (i & 1)) - 1);
                    }
                    limbs[0] = first < 0 ? (1 << 26) + first : first;
                    limbs[1] = one;
                    byte[] want = little(value(limbs).mod(P));
                    int[] row = new int[32];
                    call(made("Curve"), "writeReduced", limbs, row, 0);
                    DUE.yes("reduced " + first + " " + one + " " + all, Arrays.equals(row, ints(want)));
                }
            }
        }
    }

    private static void hashes() throws ReflectiveOperationException {
        Random random = new Random(2);
        for (int length = 0; length < 300; length++) {
            byte[] text = new byte[length];
            random.nextBytes(text);
            Object sha = made("Sha");
            int cut = random.nextInt(length + 1);
            call(sha, "start");
            call(sha, "add", ints(text), 0, cut);
            Object copy = made("Sha");
            call(copy, "copy", sha);
            int[] result = new int[32];
            call(sha, "end", result);
            DUE.yes("SHA of " + cut, Arrays.equals(result, ints(Crypto.sha(Arrays.copyOf(text, cut)))));
            call(copy, "add", ints(text), cut, length - cut);
            call(copy, "end", result);
            DUE.yes("SHA of " + length, Arrays.equals(result, ints(Crypto.sha(text))));
        }
    }
}
