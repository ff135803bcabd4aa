/** Terms: MIX, JOIN and HEAD with 64 bits that wrap around, and ints with their sign. */
public final class TermsDigestsTest {
    public static void main(String[] args) {
        Check.run(TermsDigestsTest.class);
    }

    /** Whether JOIN(a, b) is this, asked by a PROOF of one number for the first of two rows. */
    private static boolean isJoin(long a, long b, long head) {
        Desk d = new Desk();
        d.take(b);
        return d.isInside(0, 2, a, head);
    }

    private static void join(long a, long b) {
        Check.due("JOIN(" + a + ", " + b + ")", isJoin(a, b, Exact.join(a, b)), true);
        Check.due("JOIN(" + a + ", " + b + ") and one bit", isJoin(a, b, ~Exact.join(a, b)), false);
    }

    private static long digestOf(int version, int sum) {
        Desk d = new Desk();
        d.publish("core", 0, version, sum);
        return d.digest(0);
    }

    static void terms_mix_wrapsAroundAt64Bits() {
        Check.due("the product is longer", Exact.product(0, 'c').bitLength() > 64, true);
        Check.due("DIGEST", digestOf(1, 11),
                Exact.mixAll(0, 0, 'c', 'o', 'r', 'e', 256, 1, 11));
        Check.due("DIGEST worked out elsewhere", digestOf(1, 11), -3002065283533915956L);
    }

    static void terms_mix_shiftsWithoutSign() {
        long y = 0x9E3779B97F4A7C15L;
        Check.due("(1 xor 0) * the factor has its highest bit", y < 0, true);
        Check.due("MIX(1, 0) with the sign", (y ^ (y >> 29)) == Exact.mix(1, 0), false);
        join(0, 7);
    }

    static void terms_mix_of0And0_is0() {
        Desk d = new Desk();
        Check.due("publish by 0", d.publish("a", 0, 0, 0), 0);
        Check.due("DIGEST", d.digest(0), Exact.mixAll('a', 256, 0, 0));
        Check.due("DIGEST worked out elsewhere", d.digest(0), 276022929706524328L);
    }

    static void terms_aSumOfMinus1_keepsItsSign() {
        Check.due("DIGEST", digestOf(1, -1), Exact.mixAll(0, 0, 'c', 'o', 'r', 'e', 256, 1, -1));
        Check.due("DIGEST worked out elsewhere", digestOf(1, -1), -4679304020671155161L);
        Check.due("the DIGEST of 32 bits without sign", digestOf(1, -1)
                == Exact.mixAll(0, 0, 'c', 'o', 'r', 'e', 256, 1, 0xFFFFFFFFL), false);
    }

    static void terms_theLeastSum_keepsItsSign() {
        Desk d = new Desk();
        d.publish("core", 7, 999, Desk.LEAST);
        Check.due("DIGEST", d.digest(0), 9081967364432600459L);
        Check.due("DIGEST", d.digest(0),
                Exact.mixAll(0, 7, 'c', 'o', 'r', 'e', 256, 999, Desk.LEAST));
    }

    static void terms_theGreatestSum_isMixedWhole() {
        Desk d = new Desk();
        d.publish("core", 7, 999, Desk.GREATEST);
        Check.due("DIGEST", d.digest(0), -2035938113766733965L);
        Check.due("DIGEST", d.digest(0),
                Exact.mixAll(0, 7, 'c', 'o', 'r', 'e', 256, 999, Desk.GREATEST));
    }

    static void terms_join_ofTwoZeros_isNot0() {
        join(0, 0);
        Check.due("JOIN(0, 0)", isJoin(0, 0, -2835158538528166492L), true);
    }

    static void terms_join_ofTheGreatestAndTheLeast_wrapsAround() {
        join(Long.MAX_VALUE, Long.MAX_VALUE);
        join(Long.MIN_VALUE, Long.MIN_VALUE);
        join(Long.MIN_VALUE, -1);
        join(-1, Long.MIN_VALUE);
        join(-1, -1);
        Check.due("JOIN(-1, -1)", isJoin(-1, -1, -6090335800337861725L), true);
        Check.due("JOIN(least, -1)", isJoin(Long.MIN_VALUE, -1, 453447701075961588L), true);
    }

    static void terms_join_hasAnOrder() {
        join(1, 2);
        join(2, 1);
        Check.due("JOIN(1, 2)", isJoin(1, 2, 4354685565462078397L), true);
        Check.due("JOIN(2, 1)", isJoin(2, 1, -6474273705713244569L), true);
        Check.due("JOIN(1, 2) in turn", isJoin(1, 2, -6474273705713244569L), false);
    }

    static void terms_join_looksAtEachBit() {
        for (int bit = 0; bit < 64; bit++) {
            long x = 1L << bit;
            join(x, 5);
            join(5, x);
        }
    }

    static void terms_head_ofNone_is0() {
        Check.due("head(0)", Desk.withRows(3).head(0), 0);
        Check.due("head(0) of an empty log", new Desk().head(0), 0);
    }

    static void terms_head_ofOne_isItsDigest() {
        Desk d = Desk.withRows(2);
        Check.due("head(1)", d.head(1), d.digest(0));
        Check.due("head(1) worked out elsewhere", d.head(1), -2322625917080851098L);
    }

    static void terms_head_ofTwo_isTheirJoin() {
        Desk d = Desk.withRows(2);
        Check.due("head(2)", d.head(2), Exact.join(d.digest(0), d.digest(1)));
        Check.due("head(2) worked out elsewhere", d.head(2), -6610521039111428062L);
    }

    static void terms_head_ofAPowerOfTwo_hasTwoHalves() {
        Desk d = Desk.withRows(64);
        Check.due("head(4)", d.head(4),
                Exact.join(d.head(2), Exact.join(d.digest(2), d.digest(3))));
        Check.due("head(4) worked out elsewhere", d.head(4), -5193074819647255529L);
        Check.due("head(8) worked out elsewhere", d.head(8), 681923241864510103L);
        Check.due("head(64) worked out elsewhere", d.head(64), -8881104386291056436L);
    }

    static void terms_head_ofOneMoreThanAPowerOfTwo_hasThePowerFirst() {
        Desk d = Desk.withRows(65);
        Check.due("head(3)", d.head(3), Exact.join(d.head(2), d.digest(2)));
        Check.due("head(5)", d.head(5), Exact.join(d.head(4), d.digest(4)));
        Check.due("head(9)", d.head(9), Exact.join(d.head(8), d.digest(8)));
        Check.due("head(65)", d.head(65), Exact.join(d.head(64), d.digest(64)));
        Check.due("head(3) worked out elsewhere", d.head(3), -4960167830464008572L);
        Check.due("head(5) worked out elsewhere", d.head(5), 4735834858186667091L);
        Check.due("head(9) worked out elsewhere", d.head(9), 408638028343623082L);
        Check.due("head(65) worked out elsewhere", d.head(65), 7319628736669786974L);
    }

    static void terms_head_of119And120_has64First() {
        Desk d = Desk.withRows(120);
        Check.due("head(119) worked out elsewhere", d.head(119), 7154062145966871012L);
        Check.due("head(120) worked out elsewhere", d.head(120), -6705471701126535706L);
    }
}
