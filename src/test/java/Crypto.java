import java.io.ByteArrayOutputStream;
import java.math.BigInteger;
import java.nio.charset.StandardCharsets;
import java.security.GeneralSecurityException;
import java.security.MessageDigest;
import java.util.Arrays;
import java.util.HashMap;
import java.util.Map;
import javax.crypto.Cipher;
import javax.crypto.Mac;
import javax.crypto.spec.ChaCha20ParameterSpec;
import javax.crypto.spec.SecretKeySpec;

/** The published functions, by the Java library and by BigInteger, for tests alone. */
final class Crypto {
    static final byte[] NAME = "ONIONNET".getBytes(StandardCharsets.US_ASCII);
    private static final BigInteger P = BigInteger.ONE.shiftLeft(255).subtract(BigInteger.valueOf(19));
    private static final Map<String, byte[]> PRODUCTS = new HashMap<>();

    private Crypto() {
    }

    static byte[] join(byte[]... parts) {
        ByteArrayOutputStream all = new ByteArrayOutputStream();
        for (byte[] part : parts) {
            all.write(part, 0, part.length);
        }
        return all.toByteArray();
    }

    static byte[] one(int b) {
        return new byte[] {(byte) b};
    }

    static byte[] number(long value, int bytes) {
        byte[] row = new byte[bytes];
        for (int i = 0; i < bytes; i++) {
            row[i] = (byte) (value >>> 8 * (bytes - 1 - i));
        }
        return row;
    }

    static byte[] sha(byte[]... parts) {
        try {
            return MessageDigest.getInstance("SHA-256").digest(join(parts));
        } catch (GeneralSecurityException e) {
            throw new IllegalStateException(e);
        }
    }

    static byte[] hmac(byte[] key, byte[] text) {
        try {
            Mac mac = Mac.getInstance("HmacSHA256");
            mac.init(new SecretKeySpec(key, "HmacSHA256"));
            return mac.doFinal(text);
        } catch (GeneralSecurityException e) {
            throw new IllegalStateException(e);
        }
    }

    static byte[] keystream(byte[] key, int from, int count) {
        try {
            Cipher cipher = Cipher.getInstance("ChaCha20");
            cipher.init(Cipher.ENCRYPT_MODE, new SecretKeySpec(key, "ChaCha20"),
                    new ChaCha20ParameterSpec(new byte[12], 0));
            return Arrays.copyOfRange(cipher.doFinal(new byte[from + count]), from, from + count);
        } catch (GeneralSecurityException e) {
            throw new IllegalStateException(e);
        }
    }

    static byte[] base() {
        byte[] point = new byte[32];
        point[0] = 9;
        return point;
    }

    static byte[] curve(byte[] scalar, byte[] point) {
        return PRODUCTS.computeIfAbsent(new BigInteger(1, join(one(1), scalar, point)).toString(36),
                unused -> product(scalar, point)).clone();
    }

    static byte[] secret(long seed) {
        return sha(NAME, one(2), number(seed, 8));
    }

    /** A relay's KEY and behind it its MARK, as the call 'key' tells them. */
    static byte[] keyAndMark(long seed) {
        byte[] key = curve(secret(seed), base());
        return join(key, Arrays.copyOf(sha(NAME, one(3), key), 4));
    }

    static byte[] draw(long seed, int n) {
        return sha(NAME, one(1), number(seed, 8), number(n, 4));
    }

    /** The seal of relays of the seeds 1, 2, .. that have these weights. */
    static byte[] seal(int... weights) {
        byte[] table = join(NAME, one(6));
        for (int r = 0; r < weights.length; r++) {
            byte[] key = keyAndMark(r + 1);
            table = join(table, one(r), number(weights[r], 2), Arrays.copyOfRange(key, 32, 36),
                    Arrays.copyOf(key, 32));
        }
        return sha(table);
    }

    private static BigInteger littleEndian(byte[] row) {
        byte[] turned = new byte[row.length];
        for (int i = 0; i < row.length; i++) {
            turned[i] = row[row.length - 1 - i];
        }
        return new BigInteger(1, turned);
    }

    /** The ladder of RFC 7748, word by word. */
    private static byte[] product(byte[] scalar, byte[] point) {
        BigInteger k = littleEndian(scalar).clearBit(0).clearBit(1).clearBit(2).clearBit(255).setBit(254);
        BigInteger x1 = littleEndian(point).clearBit(255).mod(P);
        BigInteger x2 = BigInteger.ONE;
        BigInteger z2 = BigInteger.ZERO;
        BigInteger x3 = x1;
        BigInteger z3 = BigInteger.ONE;
        boolean swap = false;
        for (int t = 254; t >= 0; t--) {
            if (swap != k.testBit(t)) {
                BigInteger x = x2;
                x2 = x3;
                x3 = x;
                BigInteger z = z2;
                z2 = z3;
                z3 = z;
            }
            swap = k.testBit(t);
            BigInteger a = x2.add(z2);
            BigInteger aa = a.multiply(a).mod(P);
            BigInteger b = x2.subtract(z2);
            BigInteger bb = b.multiply(b).mod(P);
            BigInteger e = aa.subtract(bb);
            BigInteger da = x3.subtract(z3).multiply(a).mod(P);
            BigInteger cb = x3.add(z3).multiply(b).mod(P);
            x3 = da.add(cb).pow(2).mod(P);
            z3 = x1.multiply(da.subtract(cb).pow(2)).mod(P);
            x2 = aa.multiply(bb).mod(P);
            z2 = e.multiply(aa.add(e.multiply(BigInteger.valueOf(121665)))).mod(P);
        }
        BigInteger result = (swap ? x3 : x2).multiply((swap ? z3 : z2).modPow(P.subtract(BigInteger.TWO), P)).mod(P);
        byte[] row = new byte[32];
        for (int i = 0; i < 32; i++) {
            row[i] = result.shiftRight(8 * i).byteValue();
        }
        return row;
    }
}
