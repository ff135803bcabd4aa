import java.util.Arrays;

/** Promise 16: isGrowth. */
public final class Promise16IsGrowthTest {
    /** 11 rows from 6, with four numbers: what is asked here differs from it in one thing. */
    private static final Proofs ELEVEN = new Proofs(11);
    private static final long[] NUMBERS = ELEVEN.growth(6);
    private static final long FIRST = ELEVEN.head(6);
    private static final long SECOND = ELEVEN.head();

    public static void main(String[] args) {
        Check.run(Promise16IsGrowthTest.class);
    }

    private static boolean asked(Desk d, int m, int n, long first, long second, long... numbers) {
        d.takeAll(numbers);
        return d.isGrowth(m, n, first, second);
    }

    private static void handIsEmpty(Desk d) {
        Check.due("the HAND is empty then", d.isGrowth(1, 1, 5, 5), true);
    }

    static void promise16_aRightProof_isOne() {
        Check.due("isGrowth(6, 11)", asked(new Desk(), 6, 11, FIRST, SECOND, NUMBERS), true);
    }

    static void promise16_theProofThatGrowthMade_isOne() {
        Desk d = Desk.withRows(11);
        d.takeAll(d.proofs(d.growth(6, 11)));
        Check.due("isGrowth(6, 11)", d.isGrowth(6, 11, d.head(6), d.head(11)), true);
    }

    static void promise16_everyLengthFromEachShorterOne_isProven() {
        for (int n = 1; n <= 120; n++) {
            Proofs t = new Proofs(n);
            Desk d = new Desk();
            for (int m = 1; m <= n; m++) {
                d = m % 50 == 0 ? new Desk() : d;
                Check.due("isGrowth(" + m + ", " + n + ")",
                        asked(d, m, n, t.head(m), t.head(), t.growth(m)), true);
            }
        }
    }

    static void promise16_fromAllRows_isProvenByAnEmptyHand() {
        for (int n : new int[] {1, 2, 3, 64, 119, 120}) {
            Check.due("isGrowth(n, n)", new Desk().isGrowth(n, n, 5, 5), true);
        }
        Check.due("0 and 0", new Desk().isGrowth(7, 7, 0, 0), true);
        Check.due("the least",
                new Desk().isGrowth(7, 7, Long.MIN_VALUE, Long.MIN_VALUE), true);
    }

    static void promise16_fromAllRows_isNotProvenByTwoHeads() {
        Check.due("isGrowth(6, 6)", new Desk().isGrowth(6, 6, 5, 6), false);
        Check.due("another in the highest bit",
                new Desk().isGrowth(6, 6, 5, 5 ^ Long.MIN_VALUE), false);
        Check.due("another above 32 bits", new Desk().isGrowth(6, 6, 5, 5 + (1L << 32)), false);
    }

    static void promise16_fromAllRows_isNotProvenByAFullerHand() {
        Check.due("a number", asked(new Desk(), 6, 6, 5, 5, 5), false);
        Check.due("a 0", asked(new Desk(), 6, 6, 5, 5, 0), false);
        Check.due("16 numbers", asked(new Desk(), 6, 6, 5, 5, new long[16]), false);
    }

    static void promise16_aMissingNumber_isNot0() {
        Check.due("isGrowth(1, 2)", new Desk().isGrowth(1, 2, 3, Exact.join(3, 0)), false);
        long both = Exact.join(0, 0);
        Check.due("isGrowth(3, 4)",
                new Desk().isGrowth(3, 4, both, Exact.join(0, both)), false);
    }

    static void promise16_aNumberOf0_isANumber() {
        Check.due("isGrowth(1, 2)", asked(new Desk(), 1, 2, 3, Exact.join(3, 0), 0), true);
        long both = Exact.join(0, 0);
        Check.due("isGrowth(3, 4)",
                asked(new Desk(), 3, 4, both, Exact.join(0, both), 0, 0, 0), true);
    }

    static void promise16_aMissingNumber_isNoProof() {
        long[] fewer = Arrays.copyOf(NUMBERS, NUMBERS.length - 1);
        Check.due("the last is missing", asked(new Desk(), 6, 11, FIRST, SECOND, fewer), false);
        long[] others = Arrays.copyOfRange(NUMBERS, 1, NUMBERS.length);
        Check.due("the first is missing", asked(new Desk(), 6, 11, FIRST, SECOND, others), false);
        Check.due("none is there", new Desk().isGrowth(6, 11, FIRST, SECOND), false);
    }

    static void promise16_aNumberMore_isNoProof() {
        long[] more = Arrays.copyOf(NUMBERS, NUMBERS.length + 1);
        Check.due("a 0 more", asked(new Desk(), 6, 11, FIRST, SECOND, more), false);
        more[NUMBERS.length] = 77;
        Check.due("a 77 more", asked(new Desk(), 6, 11, FIRST, SECOND, more), false);
    }

    static void promise16_aHandOf16_isNoProof() {
        Check.due("isGrowth", asked(new Desk(), 6, 11, FIRST, SECOND,
                Arrays.copyOf(NUMBERS, 16)), false);
    }

    static void promise16_theFirstHeadBesideTheNumbers_isNoProof() {
        Proofs t = new Proofs(7);
        Check.due("isGrowth(4, 7)", asked(new Desk(), 4, 7, t.head(4), t.head(),
                t.head(4, 7)), true);
        Check.due("isGrowth(4, 7) with it", asked(new Desk(), 4, 7, t.head(4), t.head(),
                t.head(4), t.head(4, 7)), false);
    }

    static void promise16_eachBitOfEachNumber_counts() {
        for (int k = 0; k < NUMBERS.length; k++) {
            Desk d = new Desk();
            for (int bit = 0; bit < 64; bit++) {
                long[] other = NUMBERS.clone();
                other[k] ^= 1L << bit;
                Check.due("number " + k + ", bit " + bit,
                        asked(d, 6, 11, FIRST, SECOND, other), false);
            }
        }
    }

    static void promise16_numbersInAnotherOrder_areNoProof() {
        long[] other = {NUMBERS[1], NUMBERS[0], NUMBERS[2], NUMBERS[3]};
        Check.due("isGrowth", asked(new Desk(), 6, 11, FIRST, SECOND, other), false);
    }

    static void promise16_anotherFirstHead_isNoProof() {
        Check.due("isGrowth", asked(new Desk(), 6, 11, ELEVEN.head(5), SECOND, NUMBERS), false);
        Check.due("isGrowth of one bit",
                asked(new Desk(), 6, 11, FIRST ^ Long.MIN_VALUE, SECOND, NUMBERS), false);
    }

    static void promise16_anotherFirstHeadOfAPowerOfTwo_isNoProof() {
        Check.due("isGrowth(8, 11)", asked(new Desk(), 8, 11, ELEVEN.head(7), SECOND,
                ELEVEN.growth(8)), false);
    }

    static void promise16_anotherSecondHead_isNoProof() {
        Check.due("isGrowth", asked(new Desk(), 6, 11, FIRST, ELEVEN.head(10), NUMBERS), false);
        Check.due("isGrowth of one bit",
                asked(new Desk(), 6, 11, FIRST, SECOND ^ Long.MIN_VALUE, NUMBERS), false);
    }

    static void promise16_theHeadsInTurn_areNoProof() {
        Check.due("isGrowth", asked(new Desk(), 6, 11, SECOND, FIRST, NUMBERS), false);
    }

    static void promise16_anotherShorterLength_isNoProof() {
        for (int m = 1; m <= 11; m++) {
            Check.due("isGrowth(" + m + ", 11)",
                    asked(new Desk(), m, 11, FIRST, SECOND, NUMBERS), m == 6);
        }
    }

    static void promise16_aLengthWithOtherParts_isNoProof() {
        Check.due("isGrowth(6, 8)", asked(new Desk(), 6, 8, FIRST, SECOND, NUMBERS), false);
        Check.due("isGrowth(6, 17)", asked(new Desk(), 6, 17, FIRST, SECOND, NUMBERS), false);
    }

    static void promise16_from0_isNone() {
        Check.due("isGrowth(0, 1)", new Desk().isGrowth(0, 1, 0, 0), false);
        Check.due("isGrowth(0, 2)", asked(new Desk(), 0, 2, 3, Exact.join(3, 7), 7), false);
        Check.due("isGrowth(0, 1), 0 first", asked(new Desk(), 0, 1, 0, 7, 7), false);
    }

    static void promise16_from1_isTaken() {
        Check.due("isGrowth(1, 2)", asked(new Desk(), 1, 2, 3, Exact.join(3, 7), 7), true);
    }

    static void promise16_fromMinus1_isNone() {
        Check.due("isGrowth(-1, 1)", new Desk().isGrowth(-1, 1, 5, 5), false);
        Check.due("isGrowth(-1, 2)", asked(new Desk(), -1, 2, 3, Exact.join(3, 7), 7), false);
    }

    static void promise16_fromOneMoreThanAll_isNone() {
        Check.due("isGrowth(2, 1)", new Desk().isGrowth(2, 1, 5, 5), false);
        Check.due("isGrowth(12, 11)", new Desk().isGrowth(12, 11, 5, 5), false);
        Check.due("isGrowth(120, 119)", new Desk().isGrowth(120, 119, 5, 5), false);
    }

    static void promise16_noRows_areNoLength() {
        Check.due("isGrowth(0, 0)", new Desk().isGrowth(0, 0, 0, 0), false);
        Check.due("isGrowth(1, 0)", new Desk().isGrowth(1, 0, 0, 0), false);
        Check.due("isGrowth(-1, -1)", new Desk().isGrowth(-1, -1, 0, 0), false);
        Check.due("isGrowth(1, -1)", new Desk().isGrowth(1, -1, 0, 0), false);
    }

    static void promise16_120Rows_areALength() {
        Proofs t = new Proofs(120);
        for (int m : new int[] {1, 63, 64, 65, 119, 120}) {
            Check.due("isGrowth(" + m + ", 120)",
                    asked(new Desk(), m, 120, t.head(m), t.head(), t.growth(m)), true);
        }
    }

    static void promise16_121Rows_areNoLength() {
        Proofs t = new Proofs(121);
        for (int m = 1; m <= 121; m++) {
            Check.due("isGrowth(" + m + ", 121)",
                    asked(new Desk(), m, 121, t.head(m), t.head(), t.growth(m)), false);
        }
    }

    static void promise16_128And256Rows_areNoLength() {
        Proofs t = new Proofs(256);
        for (int m : new int[] {1, 128, 255, 256}) {
            Check.due("isGrowth(" + m + ", 256)",
                    asked(new Desk(), m, 256, t.head(m), t.head(), t.growth(m)), false);
        }
        Proofs u = new Proofs(128);
        Check.due("isGrowth(120, 128)",
                asked(new Desk(), 120, 128, u.head(120), u.head(), u.growth(120)), false);
    }

    static void promise16_farOut_isFalse() {
        Desk d = new Desk();
        for (int x : Desk.FAR_OUT) {
            Check.due("isGrowth(" + x + ", 1)", d.isGrowth(x, 1, 5, 5), false);
            Check.due("isGrowth(1, " + x + ")", d.isGrowth(1, x, 5, 5), false);
            Check.due("isGrowth(" + x + ", " + x + ")", d.isGrowth(x, x, 5, 5), false);
        }
    }

    static void promise16_theLog_isNotAsked() {
        Desk d = Desk.withRows(2);
        Check.due("more rows than the log has", asked(d, 6, 11, FIRST, SECOND, NUMBERS), true);
        Check.due("other HEADS than the log has", d.isGrowth(2, 2, 5, 5), true);
    }

    static void promise16_behindTrue_theHandIsEmpty() {
        Desk d = new Desk();
        Check.due("isGrowth(1, 2)", asked(d, 1, 2, 3, Exact.join(3, 7), 7), true);
        handIsEmpty(d);
    }

    static void promise16_behindFalse_theHandIsEmpty() {
        Desk d = new Desk();
        Check.due("isGrowth(1, 2)", asked(d, 1, 2, 3, 99, 7), false);
        handIsEmpty(d);
    }

    static void promise16_behindTooManyNumbers_theHandIsEmpty() {
        Desk d = new Desk();
        Check.due("isGrowth(1, 2)", asked(d, 1, 2, 3, 99, 7, 8, 9), false);
        handIsEmpty(d);
    }

    static void promise16_behindTooFewNumbers_theHandIsEmpty() {
        Desk d = new Desk();
        Check.due("isGrowth(3, 4)", asked(d, 3, 4, 3, 99, 7), false);
        handIsEmpty(d);
    }

    static void promise16_behindNoSuchShorterLength_theHandIsEmpty() {
        Desk d = new Desk();
        Check.due("isGrowth(0, 2)", asked(d, 0, 2, 3, 99, 7), false);
        handIsEmpty(d);
        Check.due("isGrowth(3, 2)", asked(d, 3, 2, 3, 99, 7), false);
        handIsEmpty(d);
    }

    static void promise16_behindNoSuchLength_theHandIsEmpty() {
        Desk d = new Desk();
        Check.due("isGrowth(1, 0)", asked(d, 1, 0, 3, 99, 7), false);
        handIsEmpty(d);
        Check.due("isGrowth(1, 121)", asked(d, 1, 121, 3, 99, 7), false);
        handIsEmpty(d);
    }

    static void promise16_askedAgain_theNumbersAreGone() {
        Desk d = new Desk();
        long second = Exact.join(3, 7);
        Check.due("isGrowth(1, 2)", asked(d, 1, 2, 3, second, 7), true);
        Check.due("isGrowth(1, 2) again", d.isGrowth(1, 2, 3, second), false);
    }
}
