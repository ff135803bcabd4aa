import java.util.ArrayList;
import java.util.List;

/** The DIGESTS of the rows of Desk.withRows(n), their HEADS and PROOFS, without a RegistryLog. */
final class Proofs {
    private final List<Long> digests = new ArrayList<>();

    Proofs(int n) {
        for (int i = 0; i < n; i++) {
            digests.add(Model.mixAll(0, 0, 'a', 256, i, 100 + i));
        }
    }

    int size() {
        return digests.size();
    }

    long digest(int i) {
        return digests.get(i);
    }

    long head(int n) {
        return Model.headOf(digests.subList(0, n));
    }

    /** The HEAD of all rows. */
    long head() {
        return head(size());
    }

    /** The HEAD of the rows from .. to - 1. */
    long head(int from, int to) {
        return Model.headOf(digests.subList(from, to));
    }

    /** The PROOF that row i is in all rows. */
    long[] inside(int i) {
        return asArray(Model.insideProof(i, digests));
    }

    /** The PROOF that all rows grew from the first m. */
    long[] growth(int m) {
        return asArray(Model.growthProof(m, digests, true));
    }

    private static long[] asArray(List<Long> numbers) {
        long[] all = new long[numbers.size()];
        for (int k = 0; k < all.length; k++) {
            all[k] = numbers.get(k);
        }
        return all;
    }
}
