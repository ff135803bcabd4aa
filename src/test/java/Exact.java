import java.math.BigInteger;

/** MIX and JOIN of the document with whole numbers of any size, cut to 64 bits where it says so. */
final class Exact {
    private static final BigInteger ALL = BigInteger.ONE.shiftLeft(64);
    private static final BigInteger FACTOR = new BigInteger("9E3779B97F4A7C15", 16);

    private Exact() {
    }

    private static BigInteger bits(long x) {
        return BigInteger.valueOf(x).mod(ALL);
    }

    /** The product of MIX before it is cut to 64 bits. */
    static BigInteger product(long h, long x) {
        return bits(h).xor(bits(x)).multiply(FACTOR);
    }

    static long mix(long h, long x) {
        BigInteger y = product(h, x).mod(ALL);
        return y.xor(y.shiftRight(29)).longValue();
    }

    static long mixAll(long... xs) {
        long h = 0;
        for (long x : xs) {
            h = mix(h, x);
        }
        return h;
    }

    static long join(long a, long b) {
        return mix(mix(1, a), b);
    }
}
