/** Promise 11: inside. */
public final class Promise11InsideTest {
    public static void main(String[] args) {
        Check.run(Promise11InsideTest.class);
    }

    private static void proven(Desk d, int i, int n, long... numbers) {
        Check.due("inside(" + i + ", " + n + ")", d.inside(i, n), numbers.length);
        for (int k = 0; k < numbers.length; k++) {
            Check.due("proof(" + k + ") of inside(" + i + ", " + n + ")", d.proof(k), numbers[k]);
        }
        Check.due("no number more", d.proof(numbers.length), 0);
    }

    /** Behind a PROOF of three numbers, the call answers NONE and there is no PROOF. */
    private static void notProven(Desk d, int i, int n) {
        d.inside(1, 5);
        Check.due("inside(" + i + ", " + n + ")", d.inside(i, n), -1);
        for (int k = 0; k < 4; k++) {
            Check.due("proof(" + k + ") behind inside(" + i + ", " + n + ")", d.proof(k), 0);
        }
    }

    static void promise11_theOnlyRow_needsNoNumber() {
        proven(Desk.withRows(1), 0, 1);
    }

    static void promise11_theFirstRowInThe1First_needsNoNumber() {
        proven(Desk.withRows(5), 0, 1);
    }

    static void promise11_eachOfTwoRows_needsTheOther() {
        Proofs t = new Proofs(2);
        Desk d = Desk.withRows(2);
        proven(d, 0, 2, t.digest(1));
        proven(d, 1, 2, t.digest(0));
    }

    static void promise11_theLastOf3Rows_needsOneNumber() {
        proven(Desk.withRows(3), 2, 3, new Proofs(3).head(2));
    }

    static void promise11_theNumbers_comeFromTheSmallestPart() {
        Proofs t = new Proofs(7);
        proven(Desk.withRows(7), 4, 7, t.digest(5), t.digest(6), t.head(4));
        proven(Desk.withRows(7), 0, 7, t.digest(1), t.head(2, 4), t.head(4, 7));
    }

    static void promise11_theRowAtTheCut_isInTheSecondPart() {
        Proofs t = new Proofs(5);
        proven(Desk.withRows(5), 4, 5, t.head(4));
        proven(Desk.withRows(5), 3, 5, t.digest(2), t.head(2), t.digest(4));
    }

    static void promise11_theFirstRowOf120_needs7Numbers() {
        Check.due("inside(0, 120)", Desk.withRows(120).inside(0, 120), 7);
    }

    static void promise11_theLastRowOf120_needs6Numbers() {
        proven(Desk.withRows(120), 119, 120, new Proofs(120).inside(119));
        Check.due("inside(119, 120)", Desk.withRows(120).inside(119, 120), 6);
    }

    static void promise11_fewerRowsThanTheLogHas_areProvenWithoutTheOthers() {
        Desk d = Desk.withRows(120);
        proven(d, 2, 3, new Proofs(3).inside(2));
        proven(d, 63, 64, new Proofs(64).inside(63));
        proven(d, 64, 65, new Proofs(65).inside(64));
    }

    static void promise11_everyRowOfEachLength_hasItsProof() {
        Desk d = Desk.withRows(120);
        int left = 272;
        for (int n = 1; n <= 120; n++) {
            Proofs t = new Proofs(n);
            for (int i = 0; i < n; i++) {
                if (left < 9) {
                    d = Desk.withRows(120);
                    left = 272;
                }
                proven(d, i, n, t.inside(i));
                left -= 9;
            }
        }
    }

    static void promise11_rowMinus1_isNotInside() {
        notProven(Desk.withRows(5), -1, 5);
        notProven(Desk.withRows(5), -1, 1);
    }

    static void promise11_theLastRow_isInside() {
        Check.due("inside(4, 5)", Desk.withRows(5).inside(4, 5), 1);
        Check.due("inside(2, 3)", Desk.withRows(5).inside(2, 3), 1);
    }

    static void promise11_theRowBehindTheLast_isNotInside() {
        notProven(Desk.withRows(5), 5, 5);
        notProven(Desk.withRows(5), 3, 3);
        notProven(Desk.withRows(5), 1, 1);
    }

    static void promise11_inNoRows_isNone() {
        notProven(Desk.withRows(5), 0, 0);
        notProven(Desk.withRows(5), -1, 0);
    }

    static void promise11_inMinus1Rows_isNone() {
        notProven(Desk.withRows(5), 0, -1);
        notProven(Desk.withRows(5), -1, -1);
        notProven(Desk.withRows(5), -2, -1);
    }

    static void promise11_inMoreRowsThanThereAre_isNone() {
        notProven(Desk.withRows(5), 0, 6);
        notProven(Desk.withRows(5), 4, 6);
        notProven(Desk.withRows(5), 5, 6);
    }

    static void promise11_in121Rows_isNone() {
        notProven(Desk.withRows(120), 0, 121);
        notProven(Desk.withRows(120), 120, 121);
        notProven(Desk.withRows(120), 120, 120);
    }

    static void promise11_farOut_isNone() {
        Desk d = Desk.withRows(5);
        for (int x : Desk.FAR_OUT) {
            notProven(d, x, 5);
            notProven(d, 0, x);
            notProven(d, x, x);
        }
    }

    static void promise11_inAnEmptyLog_isNone() {
        Desk d = new Desk();
        Check.due("inside(0, 0)", d.inside(0, 0), -1);
        Check.due("inside(0, 1)", d.inside(0, 1), -1);
        Check.due("inside(-1, 0)", d.inside(-1, 0), -1);
        Check.due("proof(0)", d.proof(0), 0);
    }

    static void promise11_noneBehindAGrowth_leavesNoProof() {
        Desk d = Desk.withRows(5);
        Check.due("growth(3, 5)", d.growth(3, 5), 4);
        Check.due("inside(5, 5)", d.inside(5, 5), -1);
        for (int k = 0; k < 5; k++) {
            Check.due("proof(" + k + ")", d.proof(k), 0);
        }
    }
}
