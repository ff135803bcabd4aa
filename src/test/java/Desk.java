/**
 * A RegistryLog whose TEXT is typed with the call, and whose exceptions are numbers. It refuses
 * what the document doesn't promise: a call after the 512th.
 */
final class Desk {
    static final int ARGUMENT = -1001;
    static final int STATE = -1002;
    static final int NONE = RegistryLog.NONE;
    /** For the mirror's number, in the calls that ask the log so. */
    static final int LOG = NONE;

    static final int LEAST = Integer.MIN_VALUE;
    static final int GREATEST = Integer.MAX_VALUE;
    /** Numbers far outside of every range, some of them inside it once their high bits are cut. */
    static final int[] FAR_OUT = {LEAST, LEAST + 1, -65536, -256, 65536, 1 << 24, GREATEST};

    private static final int MOST_CALLS = 512;
    /** A KNOWN NAME; typed behind something that was left in TEXT, it makes no KNOWN one. */
    private static final String GUARD = "zebra";
    private static final int GUARD_FOUNDER = 3;

    private final RegistryLog log = new RegistryLog();
    private int calls;

    private RegistryLog called() {
        calls++;
        if (calls > MOST_CALLS) {
            throw new AssertionError("the test makes more than 512 calls of one object");
        }
        return log;
    }

    boolean type(char c) {
        return called().type(c);
    }

    void type(String text) {
        for (int i = 0; i < text.length(); i++) {
            type(text.charAt(i));
        }
    }

    int publish(String text, int person, int version, int sum) {
        type(text);
        try {
            return called().publish(person, version, sum);
        } catch (IllegalArgumentException e) {
            return ARGUMENT;
        } catch (IllegalStateException e) {
            return STATE;
        }
    }

    int yank(String text, int person, int version, boolean on) {
        type(text);
        try {
            return called().yank(person, version, on);
        } catch (IllegalArgumentException e) {
            return ARGUMENT;
        } catch (IllegalStateException e) {
            return STATE;
        }
    }

    int grant(String text, int person, int other, boolean on) {
        type(text);
        try {
            return called().grant(person, other, on);
        } catch (IllegalArgumentException e) {
            return ARGUMENT;
        } catch (IllegalStateException e) {
            return STATE;
        }
    }

    int move(String text, int person) {
        type(text);
        try {
            return called().move(person);
        } catch (IllegalArgumentException e) {
            return ARGUMENT;
        } catch (IllegalStateException e) {
            return STATE;
        }
    }

    int rows() {
        return called().rows();
    }

    int row(int i, int what) {
        return called().row(i, what);
    }

    long digest(int i) {
        return called().digest(i);
    }

    long head(int n) {
        return called().head(n);
    }

    int inside(int i, int n) {
        return called().inside(i, n);
    }

    int growth(int m, int n) {
        return called().growth(m, n);
    }

    long proof(int k) {
        return called().proof(k);
    }

    boolean take(long x) {
        return called().take(x);
    }

    boolean isInside(int i, int n, long digest, long head) {
        return called().isInside(i, n, digest, head);
    }

    boolean isGrowth(int m, int n, long first, long second) {
        return called().isGrowth(m, n, first, second);
    }

    int follow(int mirror, int n) {
        return called().follow(mirror, n);
    }

    boolean spoil(int mirror, int i, int sum) {
        return called().spoil(mirror, i, sum);
    }

    long mirrored(int mirror) {
        return called().mirrored(mirror);
    }

    int apart(int mirror) {
        return called().apart(mirror);
    }

    int founder(String text, int mirror) {
        type(text);
        return called().founder(mirror);
    }

    boolean has(String text, int mirror, int person) {
        type(text);
        return called().has(mirror, person);
    }

    int version(String text, int mirror, int version) {
        type(text);
        return called().version(mirror, version);
    }

    int sum(String text, int mirror, int version) {
        type(text);
        return called().sum(mirror, version);
    }

    /** Takes numbers in the HAND. */
    void takeAll(long... numbers) {
        for (long x : numbers) {
            take(x);
        }
    }

    /** The numbers of the latest PROOF, which has so many. */
    long[] proofs(int size) {
        long[] numbers = new long[Math.max(0, size)];
        for (int k = 0; k < numbers.length; k++) {
            numbers[k] = proof(k);
        }
        return numbers;
    }

    /** What a refused call must leave as it is, in one text. */
    String seen() {
        int n = rows();
        StringBuilder all = new StringBuilder();
        all.append(n).append(' ').append(head(n)).append(' ').append(proof(0));
        for (int mirror = 0; mirror < 4; mirror++) {
            all.append(' ').append(mirrored(mirror));
        }
        return all.toString();
    }

    /** A call was refused as is due, and all is as it was seen before (so seen() comes first). */
    void refused(String before, String call, int got, int want) {
        Check.due(call, got, want);
        Check.due("what is seen behind " + call, seen(), before);
    }

    /** Whether nothing is left in TEXT: only in a log that has the guard. It takes TEXT. */
    boolean isTextEmpty() {
        return founder(GUARD, LOG) == GUARD_FOUNDER;
    }

    /** A log whose row 0 is the guard's, and whose row 1 is core's VERSION 1, written by 0. */
    static Desk withGuardAndCore() {
        Desk d = new Desk();
        d.publish(GUARD, GUARD_FOUNDER, 0, 0);
        d.publish("core", 0, 1, 11);
        return d;
    }

    /** A log whose row 0 is core's VERSION 1 with SUM 11, written by 0. */
    static Desk withCore() {
        Desk d = new Desk();
        d.publish("core", 0, 1, 11);
        return d;
    }

    /** A log of n rows: the VERSIONS 0 .. n - 1 of a, written by 0, their SUMS 100 .. 99 + n. */
    static Desk withRows(int n) {
        Desk d = new Desk();
        for (int i = 0; i < n; i++) {
            d.publish("a", 0, i, 100 + i);
        }
        return d;
    }
}
