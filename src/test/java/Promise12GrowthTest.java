/** Promise 12: growth. */
public final class Promise12GrowthTest {
    public static void main(String[] args) {
        Check.run(Promise12GrowthTest.class);
    }

    private static void proven(Desk d, int m, int n, long... numbers) {
        Check.due("growth(" + m + ", " + n + ")", d.growth(m, n), numbers.length);
        for (int k = 0; k < numbers.length; k++) {
            Check.due("proof(" + k + ") of growth(" + m + ", " + n + ")", d.proof(k), numbers[k]);
        }
        Check.due("no number more", d.proof(numbers.length), 0);
    }

    /** Behind a PROOF of four numbers, the call answers NONE and there is no PROOF. */
    private static void notProven(Desk d, int m, int n) {
        d.growth(3, 5);
        Check.due("growth(" + m + ", " + n + ")", d.growth(m, n), -1);
        for (int k = 0; k < 5; k++) {
            Check.due("proof(" + k + ") behind growth(" + m + ", " + n + ")", d.proof(k), 0);
        }
    }

    static void promise12_fromAllRows_needsNoNumber() {
        Desk d = Desk.withRows(5);
        for (int n = 1; n <= 5; n++) {
            proven(d, n, n);
        }
        proven(Desk.withRows(120), 120, 120);
    }

    static void promise12_from1Of2_needsTheSecond() {
        proven(Desk.withRows(2), 1, 2, new Proofs(2).digest(1));
    }

    static void promise12_fromThePowerOfTwoBelow_needsTheSecondPartAlone() {
        Proofs t = new Proofs(7);
        proven(Desk.withRows(7), 4, 7, t.head(4, 7));
        proven(Desk.withRows(7), 2, 7, t.head(2, 4), t.head(4, 7));
        proven(Desk.withRows(7), 1, 7, t.digest(1), t.head(2, 4), t.head(4, 7));
    }

    static void promise12_fromOneMoreThanThePowerOfTwo_goesIntoTheSecondPart() {
        Proofs t = new Proofs(7);
        proven(Desk.withRows(7), 5, 7, t.digest(4), t.digest(5), t.digest(6), t.head(4));
    }

    static void promise12_fromOneLessThanThePowerOfTwo_goesIntoTheFirstPart() {
        Proofs t = new Proofs(7);
        proven(Desk.withRows(7), 3, 7, t.digest(2), t.digest(3), t.head(2), t.head(4, 7));
    }

    static void promise12_allOfTheSecondPart_isOneNumber() {
        Proofs t = new Proofs(7);
        proven(Desk.withRows(7), 6, 7, t.head(4, 6), t.digest(6), t.head(4));
        proven(Desk.withRows(7), 3, 4, t.digest(2), t.digest(3), t.head(2));
    }

    static void promise12_from1Of120_needs7Numbers() {
        proven(Desk.withRows(120), 1, 120, new Proofs(120).growth(1));
        Check.due("growth(1, 120)", Desk.withRows(120).growth(1, 120), 7);
    }

    static void promise12_from119Of120_needs7Numbers() {
        proven(Desk.withRows(120), 119, 120, new Proofs(120).growth(119));
        Check.due("growth(119, 120)", Desk.withRows(120).growth(119, 120), 7);
    }

    static void promise12_theLongestOf120_has8Numbers() {
        proven(Desk.withRows(120), 63, 120, new Proofs(120).growth(63));
        Check.due("growth(63, 120)", Desk.withRows(120).growth(63, 120), 8);
    }

    static void promise12_fewerRowsThanTheLogHas_areProvenWithoutTheOthers() {
        Desk d = Desk.withRows(120);
        proven(d, 3, 4, new Proofs(4).growth(3));
        proven(d, 63, 64, new Proofs(64).growth(63));
        proven(d, 64, 65, new Proofs(65).growth(64));
    }

    static void promise12_everyLengthFromEachShorterOne_hasItsProof() {
        Desk d = Desk.withRows(120);
        int left = 272;
        for (int n = 1; n <= 120; n++) {
            Proofs t = new Proofs(n);
            for (int m = 1; m <= n; m++) {
                if (left < 10) {
                    d = Desk.withRows(120);
                    left = 272;
                }
                proven(d, m, n, t.growth(m));
                left -= 10;
            }
        }
    }

    static void promise12_from0_isNone() {
        notProven(Desk.withRows(5), 0, 5);
        notProven(Desk.withRows(5), 0, 1);
    }

    static void promise12_from1_isThere() {
        Check.due("growth(1, 5)", Desk.withRows(5).growth(1, 5), 3);
        Check.due("growth(1, 1)", Desk.withRows(5).growth(1, 1), 0);
    }

    static void promise12_fromMinus1_isNone() {
        notProven(Desk.withRows(5), -1, 5);
    }

    static void promise12_fromOneMoreThanAll_isNone() {
        notProven(Desk.withRows(5), 6, 5);
        notProven(Desk.withRows(5), 5, 4);
        notProven(Desk.withRows(5), 2, 1);
    }

    static void promise12_ofNoRows_isNone() {
        notProven(Desk.withRows(5), 0, 0);
        notProven(Desk.withRows(5), 1, 0);
    }

    static void promise12_ofMinus1Rows_isNone() {
        notProven(Desk.withRows(5), 1, -1);
        notProven(Desk.withRows(5), -1, -1);
        notProven(Desk.withRows(5), -2, -1);
    }

    static void promise12_ofMoreRowsThanThereAre_isNone() {
        notProven(Desk.withRows(5), 1, 6);
        notProven(Desk.withRows(5), 5, 6);
        notProven(Desk.withRows(5), 6, 6);
    }

    static void promise12_of121Rows_isNone() {
        notProven(Desk.withRows(120), 1, 121);
        notProven(Desk.withRows(120), 120, 121);
        notProven(Desk.withRows(120), 121, 121);
    }

    static void promise12_farOut_isNone() {
        Desk d = Desk.withRows(5);
        for (int x : Desk.FAR_OUT) {
            notProven(d, x, 5);
            notProven(d, 1, x);
            notProven(d, x, x);
        }
    }

    static void promise12_inAnEmptyLog_isNone() {
        Desk d = new Desk();
        Check.due("growth(0, 0)", d.growth(0, 0), -1);
        Check.due("growth(1, 1)", d.growth(1, 1), -1);
        Check.due("growth(0, 1)", d.growth(0, 1), -1);
        Check.due("proof(0)", d.proof(0), 0);
    }

    static void promise12_noneBehindAnInside_leavesNoProof() {
        Desk d = Desk.withRows(5);
        Check.due("inside(0, 5)", d.inside(0, 5), 3);
        Check.due("growth(0, 5)", d.growth(0, 5), -1);
        for (int k = 0; k < 4; k++) {
            Check.due("proof(" + k + ")", d.proof(k), 0);
        }
    }
}
