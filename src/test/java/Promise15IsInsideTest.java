import java.util.Arrays;

/** Promise 15: isInside. */
public final class Promise15IsInsideTest {
    public static void main(String[] args) {
        Check.run(Promise15IsInsideTest.class);
    }

    private static boolean asked(Desk d, int i, int n, long digest, long head, long... numbers) {
        d.takeAll(numbers);
        return d.isInside(i, n, digest, head);
    }

    /** Row 5 of 11, with four numbers: what is asked here differs from it in one thing. */
    private static final Proofs ELEVEN = new Proofs(11);
    private static final long[] NUMBERS = ELEVEN.inside(5);

    private static void handIsEmpty(Desk d) {
        Check.due("the HAND is empty then", d.isInside(0, 1, 5, 5), true);
    }

    static void promise15_aRightProof_isOne() {
        Check.due("isInside(5, 11)",
                asked(new Desk(), 5, 11, ELEVEN.digest(5), ELEVEN.head(), NUMBERS), true);
    }

    static void promise15_theProofThatInsideMade_isOne() {
        Desk d = Desk.withRows(11);
        d.takeAll(d.proofs(d.inside(5, 11)));
        Check.due("isInside(5, 11)", d.isInside(5, 11, d.digest(5), d.head(11)), true);
    }

    static void promise15_everyRowOfEachLength_isProven() {
        for (int n = 1; n <= 120; n++) {
            Proofs t = new Proofs(n);
            Desk d = new Desk();
            for (int i = 0; i < n; i++) {
                d = i % 60 == 0 ? new Desk() : d;
                Check.due("isInside(" + i + ", " + n + ")",
                        asked(d, i, n, t.digest(i), t.head(), t.inside(i)), true);
            }
        }
    }

    static void promise15_oneRow_isProvenByAnEmptyHand() {
        Check.due("its DIGEST", new Desk().isInside(0, 1, 5, 5), true);
        Check.due("0", new Desk().isInside(0, 1, 0, 0), true);
        Check.due("the least", new Desk().isInside(0, 1, Long.MIN_VALUE, Long.MIN_VALUE), true);
    }

    static void promise15_oneRow_isNotProvenByAnotherHead() {
        Check.due("another HEAD", new Desk().isInside(0, 1, 5, 6), false);
        Check.due("another in the highest bit",
                new Desk().isInside(0, 1, 5, 5 ^ Long.MIN_VALUE), false);
        Check.due("another above 32 bits", new Desk().isInside(0, 1, 5, 5 + (1L << 32)), false);
    }

    static void promise15_oneRow_isNotProvenByAFullerHand() {
        Check.due("a number", asked(new Desk(), 0, 1, 5, 5, 0), false);
        Check.due("16 numbers", asked(new Desk(), 0, 1, 5, 5, new long[16]), false);
    }

    static void promise15_twoRows_areNotProvenByAnEmptyHand() {
        Check.due("as if 0 were there", new Desk().isInside(0, 2, 3, Exact.join(3, 0)), false);
        Check.due("as if 0 were there", new Desk().isInside(1, 2, 3, Exact.join(0, 3)), false);
        Check.due("the DIGEST as HEAD", new Desk().isInside(0, 2, 3, 3), false);
    }

    static void promise15_aNumberOf0_isANumber() {
        Check.due("isInside(0, 2)", asked(new Desk(), 0, 2, 3, Exact.join(3, 0), 0), true);
        Check.due("isInside(1, 2)", asked(new Desk(), 1, 2, 3, Exact.join(0, 3), 0), true);
    }

    static void promise15_aMissingNumber_isNoProof() {
        long[] fewer = Arrays.copyOf(NUMBERS, NUMBERS.length - 1);
        Check.due("the last is missing",
                asked(new Desk(), 5, 11, ELEVEN.digest(5), ELEVEN.head(), fewer), false);
        long[] others = Arrays.copyOfRange(NUMBERS, 1, NUMBERS.length);
        Check.due("the first is missing",
                asked(new Desk(), 5, 11, ELEVEN.digest(5), ELEVEN.head(), others), false);
        Check.due("the HEAD of fewer", asked(new Desk(), 5, 11, ELEVEN.digest(5),
                ELEVEN.head(8), fewer), false);
    }

    static void promise15_aNumberMore_isNoProof() {
        long[] more = Arrays.copyOf(NUMBERS, NUMBERS.length + 1);
        Check.due("a 0 more",
                asked(new Desk(), 5, 11, ELEVEN.digest(5), ELEVEN.head(), more), false);
        more[NUMBERS.length] = 77;
        Check.due("a 77 more",
                asked(new Desk(), 5, 11, ELEVEN.digest(5), ELEVEN.head(), more), false);
        Check.due("a 77 more, and the HEAD with it", asked(new Desk(), 5, 11, ELEVEN.digest(5),
                Exact.join(ELEVEN.head(), 77), more), false);
    }

    static void promise15_aHandOf16_isNoProof() {
        Check.due("isInside", asked(new Desk(), 5, 11, ELEVEN.digest(5), ELEVEN.head(),
                Arrays.copyOf(NUMBERS, 16)), false);
    }

    static void promise15_eachBitOfEachNumber_counts() {
        for (int k = 0; k < NUMBERS.length; k++) {
            Desk d = new Desk();
            for (int bit = 0; bit < 64; bit++) {
                long[] other = NUMBERS.clone();
                other[k] ^= 1L << bit;
                Check.due("number " + k + ", bit " + bit,
                        asked(d, 5, 11, ELEVEN.digest(5), ELEVEN.head(), other), false);
            }
        }
    }

    static void promise15_numbersInAnotherOrder_areNoProof() {
        long[] other = {NUMBERS[1], NUMBERS[0], NUMBERS[2], NUMBERS[3]};
        Check.due("isInside",
                asked(new Desk(), 5, 11, ELEVEN.digest(5), ELEVEN.head(), other), false);
    }

    static void promise15_anotherDigest_isNoProof() {
        Check.due("isInside",
                asked(new Desk(), 5, 11, ELEVEN.digest(4), ELEVEN.head(), NUMBERS), false);
        Check.due("isInside of one bit", asked(new Desk(), 5, 11,
                ELEVEN.digest(5) ^ Long.MIN_VALUE, ELEVEN.head(), NUMBERS), false);
    }

    static void promise15_anotherHead_isNoProof() {
        Check.due("isInside",
                asked(new Desk(), 5, 11, ELEVEN.digest(5), ELEVEN.head(10), NUMBERS), false);
        Check.due("isInside of one bit", asked(new Desk(), 5, 11, ELEVEN.digest(5),
                ELEVEN.head() ^ Long.MIN_VALUE, NUMBERS), false);
    }

    static void promise15_anotherRow_isNoProof() {
        for (int i = 0; i < 11; i++) {
            Check.due("isInside(" + i + ", 11)",
                    asked(new Desk(), i, 11, ELEVEN.digest(5), ELEVEN.head(), NUMBERS), i == 5);
        }
    }

    static void promise15_aLengthWithOtherParts_isNoProof() {
        Check.due("isInside(5, 8)",
                asked(new Desk(), 5, 8, ELEVEN.digest(5), ELEVEN.head(), NUMBERS), false);
        Check.due("isInside(5, 17)",
                asked(new Desk(), 5, 17, ELEVEN.digest(5), ELEVEN.head(), NUMBERS), false);
    }

    static void promise15_row0_isTaken() {
        Check.due("isInside(0, 3)", asked(new Desk(), 0, 3, 1,
                Exact.join(Exact.join(1, 2), 3), 2, 3), true);
    }

    static void promise15_theLastRow_isTaken() {
        Check.due("isInside(2, 3)", asked(new Desk(), 2, 3, 3,
                Exact.join(Exact.join(1, 2), 3), Exact.join(1, 2)), true);
    }

    static void promise15_rowMinus1_isNone() {
        Check.due("isInside(-1, 1)", new Desk().isInside(-1, 1, 5, 5), false);
        Check.due("isInside(-1, 3)", asked(new Desk(), -1, 3, 1,
                Exact.join(Exact.join(1, 2), 3), 2, 3), false);
    }

    static void promise15_theRowBehindTheLast_isNone() {
        Check.due("isInside(1, 1)", new Desk().isInside(1, 1, 5, 5), false);
        Check.due("isInside(3, 3)", asked(new Desk(), 3, 3, 3,
                Exact.join(Exact.join(1, 2), 3), Exact.join(1, 2)), false);
    }

    static void promise15_noRows_areNoLength() {
        Check.due("isInside(0, 0)", new Desk().isInside(0, 0, 0, 0), false);
        Check.due("isInside(-1, 0)", new Desk().isInside(-1, 0, 0, 0), false);
        Check.due("isInside(0, -1)", new Desk().isInside(0, -1, 0, 0), false);
        Check.due("isInside(-2, -1)", new Desk().isInside(-2, -1, 0, 0), false);
    }

    static void promise15_120Rows_areALength() {
        Proofs t = new Proofs(120);
        Check.due("isInside(0, 120)",
                asked(new Desk(), 0, 120, t.digest(0), t.head(), t.inside(0)), true);
        Check.due("isInside(119, 120)",
                asked(new Desk(), 119, 120, t.digest(119), t.head(), t.inside(119)), true);
    }

    static void promise15_121Rows_areNoLength() {
        Proofs t = new Proofs(121);
        for (int i = 0; i < 121; i++) {
            Check.due("isInside(" + i + ", 121)",
                    asked(new Desk(), i, 121, t.digest(i), t.head(), t.inside(i)), false);
        }
    }

    static void promise15_128And256Rows_areNoLength() {
        Proofs t = new Proofs(256);
        Check.due("isInside(0, 256)",
                asked(new Desk(), 0, 256, t.digest(0), t.head(), t.inside(0)), false);
        Proofs u = new Proofs(128);
        Check.due("isInside(127, 128)",
                asked(new Desk(), 127, 128, u.digest(127), u.head(), u.inside(127)), false);
    }

    static void promise15_farOut_isFalse() {
        Desk d = new Desk();
        for (int x : Desk.FAR_OUT) {
            Check.due("isInside(" + x + ", 1)", d.isInside(x, 1, 5, 5), false);
            Check.due("isInside(0, " + x + ")", d.isInside(0, x, 5, 5), false);
            Check.due("isInside(" + x + ", " + x + ")", d.isInside(x, x, 5, 5), false);
            Check.due("isInside(" + (x - 1) + ", " + x + ")", d.isInside(x - 1, x, 5, 5), false);
        }
    }

    static void promise15_theLog_isNotAsked() {
        Desk d = Desk.withRows(2);
        Check.due("more rows than the log has",
                asked(d, 5, 11, ELEVEN.digest(5), ELEVEN.head(), NUMBERS), true);
        Check.due("another row than the log has", d.isInside(0, 1, 5, 5), true);
    }

    static void promise15_behindTrue_theHandIsEmpty() {
        Desk d = new Desk();
        Check.due("isInside(0, 2)", asked(d, 0, 2, 3, Exact.join(3, 7), 7), true);
        handIsEmpty(d);
    }

    static void promise15_behindFalse_theHandIsEmpty() {
        Desk d = new Desk();
        Check.due("isInside(0, 2)", asked(d, 0, 2, 3, 99, 7), false);
        handIsEmpty(d);
    }

    static void promise15_behindTooManyNumbers_theHandIsEmpty() {
        Desk d = new Desk();
        Check.due("isInside(0, 2)", asked(d, 0, 2, 3, 99, 7, 8, 9), false);
        handIsEmpty(d);
    }

    static void promise15_behindTooFewNumbers_theHandIsEmpty() {
        Desk d = new Desk();
        Check.due("isInside(0, 8)", asked(d, 0, 8, 3, 99, 7), false);
        handIsEmpty(d);
    }

    static void promise15_behindNoSuchRow_theHandIsEmpty() {
        Desk d = new Desk();
        Check.due("isInside(2, 2)", asked(d, 2, 2, 3, 99, 7), false);
        handIsEmpty(d);
        Check.due("isInside(-1, 2)", asked(d, -1, 2, 3, 99, 7), false);
        handIsEmpty(d);
    }

    static void promise15_behindNoSuchLength_theHandIsEmpty() {
        Desk d = new Desk();
        Check.due("isInside(0, 0)", asked(d, 0, 0, 3, 99, 7), false);
        handIsEmpty(d);
        Check.due("isInside(0, 121)", asked(d, 0, 121, 3, 99, 7), false);
        handIsEmpty(d);
    }

    static void promise15_askedAgain_theNumbersAreGone() {
        Desk d = new Desk();
        long head = Exact.join(3, 7);
        Check.due("isInside(0, 2)", asked(d, 0, 2, 3, head, 7), true);
        Check.due("isInside(0, 2) again", d.isInside(0, 2, 3, head), false);
    }
}
