/** Terms: how the two PROOFS are made, at the edges of their parts. */
public final class TermsProofsTest {
    public static void main(String[] args) {
        Check.run(TermsProofsTest.class);
    }

    private static void proof(Desk d, String call, int size, long... numbers) {
        Check.due(call, size, numbers.length);
        for (int k = 0; k < numbers.length; k++) {
            Check.due("proof(" + k + ") of " + call, d.proof(k), numbers[k]);
        }
    }

    static void terms_insideOf1Row_isNothing() {
        Desk d = Desk.withRows(3);
        proof(d, "inside(0, 1)", d.inside(0, 1));
    }

    static void terms_insideTheFirstPart_endsWithTheSecondPartsHead() {
        Proofs p = new Proofs(6);
        Desk d = Desk.withRows(6);
        proof(d, "inside(3, 6)", d.inside(3, 6), p.digest(2), p.head(2), p.head(4, 6));
    }

    static void terms_insideTheSecondPart_endsWithTheFirstPartsHead() {
        Proofs p = new Proofs(6);
        Desk d = Desk.withRows(6);
        proof(d, "inside(4, 6)", d.inside(4, 6), p.digest(5), p.head(4));
    }

    static void terms_insideAPowerOfTwo_goesByHalves() {
        Proofs p = new Proofs(8);
        Desk d = Desk.withRows(8);
        proof(d, "inside(3, 8)", d.inside(3, 8), p.digest(2), p.head(2), p.head(4, 8));
        proof(d, "inside(4, 8)", d.inside(4, 8), p.digest(5), p.head(6, 8), p.head(4));
    }

    static void terms_growthFromAllRows_isNothing() {
        Desk d = Desk.withRows(6);
        proof(d, "growth(6, 6)", d.growth(6, 6));
        proof(d, "growth(1, 1)", d.growth(1, 1));
        proof(d, "growth(4, 4)", d.growth(4, 4));
    }

    static void terms_growthFromAllOfAFirstPart_leavesItsHeadOut() {
        Proofs p = new Proofs(6);
        Desk d = Desk.withRows(6);
        proof(d, "growth(4, 6)", d.growth(4, 6), p.head(4, 6));
        proof(d, "growth(2, 6)", d.growth(2, 6), p.head(2, 4), p.head(4, 6));
    }

    static void terms_growthFromAllOfASecondPart_hasItsHead() {
        Proofs p = new Proofs(7);
        Desk d = Desk.withRows(7);
        proof(d, "growth(6, 7)", d.growth(6, 7), p.head(4, 6), p.digest(6), p.head(4));
    }

    static void terms_growthFromJustK_goesIntoTheFirstPart() {
        Proofs p = new Proofs(8);
        Desk d = Desk.withRows(8);
        proof(d, "growth(4, 8)", d.growth(4, 8), p.head(4, 8));
        proof(d, "growth(4, 5)", d.growth(4, 5), p.digest(4));
    }

    static void terms_growthFromOneAboveK_goesIntoTheSecondPart() {
        Proofs p = new Proofs(8);
        Desk d = Desk.withRows(8);
        proof(d, "growth(5, 8)", d.growth(5, 8),
                p.digest(4), p.digest(5), p.head(6, 8), p.head(4));
        proof(d, "growth(3, 4)", d.growth(3, 4), p.digest(2), p.digest(3), p.head(2));
    }

    static void terms_growthFromOneBelowK_goesIntoTheFirstPart() {
        Proofs p = new Proofs(8);
        Desk d = Desk.withRows(8);
        proof(d, "growth(3, 8)", d.growth(3, 8),
                p.digest(2), p.digest(3), p.head(2), p.head(4, 8));
    }

    static void terms_growthOnceInASecondPart_neverLeavesAHeadOut() {
        Proofs p = new Proofs(8);
        Desk d = Desk.withRows(8);
        proof(d, "growth(6, 8)", d.growth(6, 8), p.head(4, 6), p.head(6, 8), p.head(4));
        proof(d, "growth(7, 8)", d.growth(7, 8),
                p.digest(6), p.digest(7), p.head(4, 6), p.head(4));
    }
}
