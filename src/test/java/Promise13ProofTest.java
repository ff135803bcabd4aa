/** Promise 13: proof. */
public final class Promise13ProofTest {
    public static void main(String[] args) {
        Check.run(Promise13ProofTest.class);
    }

    private static void proofs(Desk d, long... numbers) {
        for (int k = 0; k < 17; k++) {
            Check.due("proof(" + k + ")", d.proof(k), k < numbers.length ? numbers[k] : 0);
        }
    }

    static void promise13_beforeAnyProof_itIs0() {
        proofs(new Desk());
        proofs(Desk.withRows(5));
    }

    static void promise13_number0_isTheFirst() {
        Proofs t = new Proofs(5);
        Desk d = Desk.withRows(5);
        d.inside(0, 5);
        Check.due("proof(0)", d.proof(0), t.digest(1));
    }

    static void promise13_theLastNumber_isThere() {
        Proofs t = new Proofs(5);
        Desk d = Desk.withRows(5);
        d.inside(0, 5);
        Check.due("proof(2)", d.proof(2), t.digest(4));
    }

    static void promise13_numberMinus1_is0() {
        Desk d = Desk.withRows(5);
        d.inside(0, 5);
        Check.due("proof(-1)", d.proof(-1), 0);
    }

    static void promise13_theNumberBehindTheLast_is0() {
        Desk d = Desk.withRows(5);
        d.inside(0, 5);
        Check.due("proof(3)", d.proof(3), 0);
        Check.due("proof(4)", d.proof(4), 0);
        Check.due("proof(15)", d.proof(15), 0);
        Check.due("proof(16)", d.proof(16), 0);
    }

    static void promise13_farOut_is0() {
        Desk d = Desk.withRows(5);
        d.inside(0, 5);
        for (int k : Desk.FAR_OUT) {
            Check.due("proof(" + k + ")", d.proof(k), 0);
        }
    }

    static void promise13_theLongestProof_isThereWhole() {
        Desk d = Desk.withRows(120);
        d.growth(63, 120);
        proofs(d, new Proofs(120).growth(63));
    }

    static void promise13_ofAProofOfNoNumber_is0() {
        Desk d = Desk.withRows(5);
        d.inside(0, 1);
        proofs(d);
        d.growth(5, 5);
        proofs(d);
    }

    static void promise13_aShorterProof_leavesNothingOfALongerOne() {
        Proofs t = new Proofs(2);
        Desk d = Desk.withRows(5);
        d.growth(3, 5);
        d.inside(1, 2);
        proofs(d, t.digest(0));
        d.growth(3, 5);
        d.inside(0, 1);
        proofs(d);
        d.inside(0, 5);
        d.growth(1, 2);
        proofs(d, t.digest(1));
    }

    static void promise13_theLatestOfSeveral_isAnswered() {
        Desk d = Desk.withRows(5);
        d.inside(0, 5);
        d.growth(3, 5);
        proofs(d, new Proofs(5).growth(3));
        d.inside(3, 5);
        proofs(d, new Proofs(5).inside(3));
    }

    static void promise13_behindNone_itIs0() {
        Desk d = Desk.withRows(5);
        d.inside(0, 5);
        d.inside(5, 5);
        proofs(d);
        d.growth(3, 5);
        d.growth(0, 5);
        proofs(d);
    }

    static void promise13_behindNone_theNextProofIsAnswered() {
        Desk d = Desk.withRows(5);
        d.inside(5, 5);
        d.inside(0, 5);
        proofs(d, new Proofs(5).inside(0));
    }

    static void promise13_whatTheLogDoesLater_changesNothing() {
        Desk d = Desk.withRows(5);
        d.inside(0, 5);
        d.publish("a", 0, 900, 0);
        d.publish("a", 8, 900, 0);
        d.follow(0, 6);
        d.spoil(0, 1, 5);
        proofs(d, new Proofs(5).inside(0));
    }

    static void promise13_whatTheHandDoesLater_changesNothing() {
        Desk d = Desk.withRows(5);
        d.inside(0, 5);
        d.takeAll(7, 8, 9, 10);
        d.isInside(0, 5, 0, 0);
        d.isGrowth(1, 5, 0, 0);
        proofs(d, new Proofs(5).inside(0));
    }

    static void promise13_askedTwice_itIsTheSame() {
        Desk d = Desk.withRows(5);
        d.inside(0, 5);
        long first = d.proof(0);
        Check.due("proof(0)", d.proof(0), first);
    }
}
