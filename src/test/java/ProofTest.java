/** Promises 11 to 16: proofs made, proofs taken in the HAND, and what they prove. */
public final class ProofTest {
    private static final Check CHECK = new Check("ProofTest");
    private static final int[] WRONG = {-1, Integer.MIN_VALUE, Integer.MAX_VALUE};

    public static void main(String[] args) {
        smallProofs();
        wrongCalls();
        everyInside();
        everyGrowth();
        handLimit();
        spoiltInside();
        spoiltGrowth();
        wrongNumbers();
        CHECK.end();
    }

    private static void smallProofs() {
        RegistryLog x = Desk.withVersions("pack", 7).x;
        CHECK.due("inside(0, 1)", x.inside(0, 1), 0);
        CHECK.due("its proof(0)", x.proof(0), 0);
        CHECK.due("inside(0, 2)", x.inside(0, 2), 1);
        CHECK.due("its proof(0)", x.proof(0), x.digest(1));
        CHECK.due("inside(2, 3)", x.inside(2, 3), 1);
        CHECK.due("its proof(0)", x.proof(0), x.head(2));
        CHECK.due("inside(4, 7)", x.inside(4, 7), 3);
        CHECK.due("its proof(0)", x.proof(0), x.digest(5));
        CHECK.due("its proof(1)", x.proof(1), x.digest(6));
        CHECK.due("its proof(2)", x.proof(2), x.head(4));
        CHECK.due("its proof(3)", x.proof(3), 0);
        CHECK.due("its proof(-1)", x.proof(-1), 0);
        CHECK.due("its proof(least)", x.proof(Integer.MIN_VALUE), 0);
        CHECK.due("its proof(greatest)", x.proof(Integer.MAX_VALUE), 0);
        CHECK.due("growth(7, 7)", x.growth(7, 7), 0);
        CHECK.due("its proof(0)", x.proof(0), 0);
        CHECK.due("growth(4, 7)", x.growth(4, 7), 1);
        CHECK.due("its proof(0)", x.proof(0),
                Model.join(Model.join(x.digest(4), x.digest(5)), x.digest(6)));
        CHECK.due("growth(3, 4)", x.growth(3, 4), 3);
        CHECK.due("its proof(0)", x.proof(0), x.digest(2));
        CHECK.due("its proof(1)", x.proof(1), x.digest(3));
        CHECK.due("its proof(2)", x.proof(2), x.head(2));
        CHECK.due("growth(6, 7)", x.growth(6, 7), 3);
        CHECK.due("its proof(0)", x.proof(0), Model.join(x.digest(4), x.digest(5)));
        CHECK.due("its proof(1)", x.proof(1), x.digest(6));
        CHECK.due("its proof(2)", x.proof(2), x.head(4));
    }

    private static void wrongCalls() {
        Desk d = Desk.withVersions("pack", 5);
        RegistryLog x = d.x;
        int[][] inside = {{5, 5}, {0, 0}, {0, 6}, {-1, 5}, {6, 5}, {0, -1}, {3, 3}, {5, 6}};
        int[][] growth = {{0, 5}, {6, 5}, {1, 6}, {6, 6}, {0, 0}, {-1, 5}, {1, 0}, {-1, -1}};
        for (int[] c : inside) {
            x.inside(2, 5);
            CHECK.due("inside(" + c[0] + ", " + c[1] + ")", x.inside(c[0], c[1]), -1);
            CHECK.due("no PROOF then", x.proof(0), 0);
        }
        for (int[] c : growth) {
            x.inside(2, 5);
            CHECK.due("growth(" + c[0] + ", " + c[1] + ")", x.growth(c[0], c[1]), -1);
            CHECK.due("no PROOF then", x.proof(0), 0);
        }
        for (int wrong : WRONG) {
            CHECK.due("inside(wrong, 5)", x.inside(wrong, 5), -1);
            CHECK.due("inside(0, wrong)", x.inside(0, wrong), -1);
            CHECK.due("growth(wrong, 5)", x.growth(wrong, 5), -1);
            CHECK.due("growth(1, wrong)", x.growth(1, wrong), -1);
        }
        x.inside(4, 5);
        long kept = x.proof(0);
        d.publish("pack", 0, 99, 99);
        x.take(1);
        x.isInside(0, 1, 0, 0);
        CHECK.due("a PROOF stays as it was made", x.proof(0), kept);
    }

    /** An object is good for 512 calls, so each one proves twelve rows. */
    private static void everyInside() {
        for (int n = 1; n <= 120; n++) {
            for (int part = 0; part < n; part += 12) {
                insidePart(Desk.withVersions("a", n).x, n, part, Math.min(n, part + 12));
            }
        }
    }

    private static void insidePart(RegistryLog x, int n, int from, int to) {
        for (int i = from; i < to; i++) {
            int size = x.inside(i, n);
            for (int k = 0; k < size; k++) {
                x.take(x.proof(k));
            }
            CHECK.due("isInside(" + i + ", " + n + ")",
                    x.isInside(i, n, x.digest(i), x.head(n)), true);
        }
    }

    private static void everyGrowth() {
        for (int n = 1; n <= 120; n++) {
            for (int part = 1; part <= n; part += 12) {
                growthPart(Desk.withVersions("a", n).x, n, part, Math.min(n, part + 11));
            }
        }
    }

    private static void growthPart(RegistryLog x, int n, int from, int to) {
        for (int m = from; m <= to; m++) {
            int size = x.growth(m, n);
            for (int k = 0; k < size; k++) {
                x.take(x.proof(k));
            }
            CHECK.due("isGrowth(" + m + ", " + n + ")",
                    x.isGrowth(m, n, x.head(m), x.head(n)), true);
        }
    }

    private static void handLimit() {
        RegistryLog x = new RegistryLog();
        for (int i = 0; i < 16; i++) {
            CHECK.due("take number " + i, x.take(i), true);
        }
        CHECK.due("take the 17th", x.take(16), false);
        CHECK.due("16 are no PROOF for one row", x.isInside(0, 1, 5, 5), false);
        CHECK.due("the HAND is empty then", x.isInside(0, 1, 5, 5), true);
        x.take(1);
        CHECK.due("one too many", x.isGrowth(1, 1, 5, 5), false);
        CHECK.due("the HAND is empty after isGrowth", x.isGrowth(1, 1, 5, 5), true);
        x.take(1);
        CHECK.due("no such i", x.isInside(1, 1, 5, 5), false);
        CHECK.due("the HAND is empty even so", x.isInside(0, 1, 5, 5), true);
        x.take(1);
        CHECK.due("no such m", x.isGrowth(0, 1, 5, 5), false);
        CHECK.due("the HAND is empty even so", x.isGrowth(1, 1, 5, 5), true);
    }

    private static void takeProof(RegistryLog x, int size, int changed) {
        for (int k = 0; k < size; k++) {
            x.take(x.proof(k) ^ (k == changed ? 1L << 63 : 0));
        }
    }

    private static void spoiltInside() {
        RegistryLog x = Desk.withVersions("a", 11).x;
        int size = x.inside(5, 11);
        CHECK.due("inside(5, 11)", size, 4);
        long digest = x.digest(5);
        long head = x.head(11);
        for (int changed = 0; changed < size; changed++) {
            takeProof(x, size, changed);
            CHECK.due("a number changed", x.isInside(5, 11, digest, head), false);
        }
        takeProof(x, size - 1, -1);
        CHECK.due("a number missing", x.isInside(5, 11, digest, head), false);
        takeProof(x, size, -1);
        x.take(0);
        CHECK.due("a number more", x.isInside(5, 11, digest, head), false);
        takeProof(x, size, -1);
        CHECK.due("another DIGEST", x.isInside(5, 11, digest + 1, head), false);
        takeProof(x, size, -1);
        CHECK.due("another HEAD", x.isInside(5, 11, digest, head + 1), false);
        takeProof(x, size, -1);
        CHECK.due("another i", x.isInside(4, 11, digest, head), false);
        takeProof(x, size, -1);
        CHECK.due("another n, of other parts", x.isInside(5, 8, digest, head), false);
        takeProof(x, size, -1);
        CHECK.due("unspoilt", x.isInside(5, 11, digest, head), true);
        CHECK.due("no numbers at all", x.isInside(5, 11, digest, head), false);
        CHECK.due("one row, its DIGEST no HEAD", x.isInside(0, 1, 5, 6), false);
        RegistryLog other = new RegistryLog();
        CHECK.due("a missing number isn't 0", other.isInside(0, 2, 3, Model.join(3, 0)), false);
        other.take(0);
        CHECK.due("a 0 in the HAND", other.isInside(0, 2, 3, Model.join(3, 0)), true);
    }

    private static void spoiltGrowth() {
        RegistryLog x = Desk.withVersions("a", 11).x;
        int size = x.growth(6, 11);
        CHECK.due("growth(6, 11)", size, 4);
        long first = x.head(6);
        long second = x.head(11);
        for (int changed = 0; changed < size; changed++) {
            takeProof(x, size, changed);
            CHECK.due("a number changed", x.isGrowth(6, 11, first, second), false);
        }
        takeProof(x, size - 1, -1);
        CHECK.due("a number missing", x.isGrowth(6, 11, first, second), false);
        takeProof(x, size, -1);
        x.take(0);
        CHECK.due("a number more", x.isGrowth(6, 11, first, second), false);
        takeProof(x, size, -1);
        CHECK.due("another first", x.isGrowth(6, 11, first + 1, second), false);
        takeProof(x, size, -1);
        CHECK.due("another second", x.isGrowth(6, 11, first, second + 1), false);
        takeProof(x, size, -1);
        CHECK.due("another m", x.isGrowth(7, 11, first, second), false);
        takeProof(x, size, -1);
        CHECK.due("unspoilt", x.isGrowth(6, 11, first, second), true);
        CHECK.due("no numbers at all", x.isGrowth(6, 11, first, second), false);
        CHECK.due("all of them, two HEADS", x.isGrowth(6, 6, first, second), false);
        takeProof(x, x.growth(8, 11), -1);
        CHECK.due("a power of two, another first", x.isGrowth(8, 11, first, second), false);
        RegistryLog other = new RegistryLog();
        CHECK.due("a missing number isn't 0", other.isGrowth(1, 2, 3, Model.join(3, 0)), false);
        other.take(0);
        CHECK.due("a 0 in the HAND", other.isGrowth(1, 2, 3, Model.join(3, 0)), true);
    }

    private static void wrongNumbers() {
        RegistryLog x = new RegistryLog();
        CHECK.due("isInside(0, 0)", x.isInside(0, 0, 0, 0), false);
        CHECK.due("isGrowth(0, 0)", x.isGrowth(0, 0, 0, 0), false);
        CHECK.due("isGrowth(0, 1)", x.isGrowth(0, 1, 0, 0), false);
        CHECK.due("isGrowth(2, 1)", x.isGrowth(2, 1, 0, 0), false);
        CHECK.due("isGrowth(120, 120)", x.isGrowth(120, 120, 4, 4), true);
        CHECK.due("isGrowth(121, 121)", x.isGrowth(121, 121, 4, 4), false);
        for (int wrong : WRONG) {
            CHECK.due("isInside(wrong, 1)", x.isInside(wrong, 1, 0, 0), false);
            CHECK.due("isInside(0, wrong)", x.isInside(0, wrong, 0, 0), false);
            CHECK.due("isInside(wrong, wrong)", x.isInside(wrong, wrong, 0, 0), false);
            CHECK.due("isGrowth(wrong, 1)", x.isGrowth(wrong, 1, 0, 0), false);
            CHECK.due("isGrowth(1, wrong)", x.isGrowth(1, wrong, 0, 0), false);
            CHECK.due("isGrowth(wrong, wrong)", x.isGrowth(wrong, wrong, 0, 0), false);
        }
        greatestN(x, 120, true);
        greatestN(x, 121, false);
    }

    /** The last row of n, all numbers being 0: 3 and 3 in 64 + 32 + 16 + 8, 4 with 1 more. */
    private static void greatestN(RegistryLog x, int n, boolean due) {
        long head = 9;
        int numbers = n == 120 ? 6 : 4;
        for (int k = 0; k < numbers; k++) {
            x.take(0);
            head = Model.join(0, head);
        }
        CHECK.due("isInside(" + (n - 1) + ", " + n + ")", x.isInside(n - 1, n, 9, head), due);
    }
}
