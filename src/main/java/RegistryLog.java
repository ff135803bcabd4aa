/**
 * A registry of packages as a log that only grows, with a digest for each length, short proofs
 * about it, and mirrors that follow it. The words in capitals are those of the document.
 */
public final class RegistryLog {
    public static final int NONE = -1;

    private static final int PUBLISH = 0;
    private static final int YANK = 1;
    private static final int GRANT = 2;
    private static final int MOVE = 3;

    private static final int PEOPLE = 8;
    private static final int VERSIONS = 1000;
    private static final int MIRRORS = 4;
    private static final int MAX_ROWS = 120;
    private static final int MAX_TEXT = 24;
    private static final int MAX_NAME = 10;
    private static final int MAX_HAND = 16;
    private static final char FIRST_CHARACTER = 32;
    private static final char LAST_CHARACTER = 126;
    private static final char MOVE_MARK = '>';

    private static final long MIX_FACTOR = 0x9E3779B97F4A7C15L;
    private static final int MIX_SHIFT = 29;
    private static final long NAME_END = 256;

    private final StringBuilder text;
    private final Ledger log;
    private final Ledger[] mirrors;
    /** Stands for every mirror that there isn't: it never gets a row. */
    private final Ledger noMirror;
    private final Numbers latestProof;
    private final Numbers hand;

    public RegistryLog() {
        text = new StringBuilder();
        log = new Ledger();
        mirrors = new Ledger[MIRRORS];
        for (int i = 0; i < MIRRORS; i++) {
            mirrors[i] = new Ledger();
        }
        noMirror = new Ledger();
        latestProof = new Numbers();
        hand = new Numbers();
    }

    public boolean type(char c) {
        if (c < FIRST_CHARACTER || c > LAST_CHARACTER || text.length() >= MAX_TEXT) {
            return false;
        }
        text.append(c);
        return true;
    }

    public int publish(int person, int version, int sum)
            throws IllegalArgumentException, IllegalStateException {
        Name name = takeName();
        demandArguments(name.isName() && isPerson(person) && isVersion(version));
        int origin = log.originOf(name);
        if (origin == NONE) {
            demandState(log.isFree(name, NONE));
            origin = log.size();
        } else {
            demandState(log.hasRight(origin, person)
                    && log.publishOf(origin, version) == NONE);
        }
        return write(new Row(PUBLISH, person, name, name, version, sum, origin));
    }

    public int yank(int person, int version, boolean on)
            throws IllegalArgumentException, IllegalStateException {
        Name name = takeName();
        demandArguments(name.isName() && isPerson(person) && isVersion(version));
        int origin = log.originOf(name);
        demandState(log.hasRight(origin, person)
                && log.publishOf(origin, version) != NONE
                && log.isYanked(origin, version) != on);
        return write(new Row(YANK, person, name, name, version, asNumber(on), origin));
    }

    public int grant(int person, int other, boolean on)
            throws IllegalArgumentException, IllegalStateException {
        Name name = takeName();
        demandArguments(name.isName() && isPerson(person) && isPerson(other));
        int origin = log.originOf(name);
        int founder = log.founderOf(origin);
        demandState(person == founder && other != founder
                && log.hasRight(origin, other) != on);
        return write(new Row(GRANT, person, name, name, other, asNumber(on), origin));
    }

    public int move(int person) throws IllegalArgumentException, IllegalStateException {
        String typed = takeText();
        int mark = typed.indexOf(MOVE_MARK);
        if (mark < 0 || !isPerson(person)) {
            throw new IllegalArgumentException("no mark between two names, or no such person");
        }
        Name name = new Name(typed.substring(0, mark));
        Name other = new Name(typed.substring(mark + 1, typed.length()));
        demandArguments(name.isName() && other.isName());
        int origin = log.originOf(name);
        demandState(person == log.founderOf(origin) && log.isFree(other, origin));
        return write(new Row(MOVE, person, name, other, NONE, 0, origin));
    }

    public int rows() {
        return log.size();
    }

    public int row(int i, int what) {
        Row asked = log.at(i);
        switch (what) {
            case 0:
                return asked.kind;
            case 1:
                return asked.person;
            case 2:
                return asked.second;
            case 3:
                return asked.third;
            default:
                return NONE;
        }
    }

    public long digest(int i) {
        return log.at(i).digest;
    }

    public long head(int n) {
        return n > log.size() ? 0 : Tree.headOf(log, 0, n);
    }

    public int inside(int i, int n) {
        latestProof.clear();
        if (n > log.size() || i < 0 || i >= n) {
            return NONE;
        }
        Tree.proveInside(log, 0, n, i, latestProof);
        return latestProof.size();
    }

    public int growth(int m, int n) {
        latestProof.clear();
        if (n > log.size() || m < 1 || m > n) {
            return NONE;
        }
        Tree.proveGrowth(log, 0, n, m, true, latestProof);
        return latestProof.size();
    }

    public long proof(int k) {
        return latestProof.get(k);
    }

    public boolean take(long x) {
        return hand.add(x);
    }

    public boolean isInside(int i, int n, long digest, long head) {
        boolean proven = false;
        if (n <= MAX_ROWS && i >= 0 && i < n) {
            long made = Tree.headFromInside(i, n, digest, hand);
            proven = made == head && hand.isReadToTheEnd();
        }
        hand.clear();
        return proven;
    }

    public boolean isGrowth(int m, int n, long first, long second) {
        boolean proven = false;
        if (n <= MAX_ROWS && m >= 1 && m <= n) {
            TwoHeads made = Tree.headsFromGrowth(m, n, true, first, hand);
            proven = made.shorter == first && made.longer == second && hand.isReadToTheEnd();
        }
        hand.clear();
        return proven;
    }

    public int follow(int mirror, int n) {
        if (!isMirror(mirror) || n < 0) {
            return NONE;
        }
        Ledger copy = mirrorOf(mirror);
        int from = copy.size();
        int count = Math.min(n, log.size() - from);
        for (int i = 0; i < count; i++) {
            copy.append(log.at(from + i));
        }
        return count;
    }

    public boolean spoil(int mirror, int i, int sum) {
        Ledger copy = mirrorOf(mirror);
        Row spoilt = copy.at(i);
        if (spoilt.kind != PUBLISH) {
            return false;
        }
        copy.replace(i, spoilt.withSum(sum));
        return true;
    }

    public long mirrored(int mirror) {
        Ledger copy = mirrorOf(mirror);
        return Tree.headOf(copy, 0, copy.size());
    }

    public int apart(int mirror) {
        Ledger copy = mirrorOf(mirror);
        for (int i = 0; i < copy.size(); i++) {
            // MIX and JOIN with one argument kept are one to one in the other, so the HEADS first
            // differ at the length at which the first row with another DIGEST comes in.
            if (copy.at(i).digest != log.at(i).digest) {
                return i + 1;
            }
        }
        return NONE;
    }

    public int founder(int mirror) {
        Ledger asked = ledgerOf(mirror);
        return asked.founderOf(asked.originOf(takeName()));
    }

    public boolean has(int mirror, int person) {
        Ledger asked = ledgerOf(mirror);
        int origin = asked.originOf(takeName());
        return isPerson(person) && asked.hasRight(origin, person);
    }

    public int version(int mirror, int version) {
        Ledger asked = ledgerOf(mirror);
        int origin = asked.originOf(takeName());
        if (asked.publishOf(origin, version) == NONE) {
            return 0;
        }
        return asked.isYanked(origin, version) ? 2 : 1;
    }

    public int sum(int mirror, int version) {
        Ledger asked = ledgerOf(mirror);
        int found = asked.publishOf(asked.originOf(takeName()), version);
        return found == NONE ? 0 : asked.at(found).third;
    }

    private String takeText() {
        String typed = text.toString();
        text.setLength(0);
        return typed;
    }

    private Name takeName() {
        return new Name(takeText());
    }

    private int write(Row written) {
        int number = log.size();
        demandState(number < MAX_ROWS);
        log.append(written);
        return number;
    }

    private Ledger mirrorOf(int mirror) {
        return isMirror(mirror) ? mirrors[mirror] : noMirror;
    }

    private Ledger ledgerOf(int mirror) {
        return mirror == NONE ? log : mirrorOf(mirror);
    }

    private static void demandArguments(boolean good) {
        if (!good) {
            throw new IllegalArgumentException("no such name, person or version");
        }
    }

    private static void demandState(boolean good) {
        if (!good) {
            throw new IllegalStateException("the row may not come");
        }
    }

    private static boolean isPerson(int person) {
        return person >= 0 && person < PEOPLE;
    }

    private static boolean isVersion(int version) {
        return version >= 0 && version < VERSIONS;
    }

    private static boolean isMirror(int mirror) {
        return mirror >= 0 && mirror < MIRRORS;
    }

    private static int asNumber(boolean on) {
        return on ? 1 : 0;
    }

    /** What was typed where a NAME is due; isName() tells whether it is one. */
    private static final class Name {
        final String typed;
        final String folded;

        Name(String typed) {
            this.typed = typed;
            this.folded = fold(typed);
        }

        boolean isName() {
            int length = typed.length();
            if (length < 1 || length > MAX_NAME) {
                return false;
            }
            // A - at an end is refused like a second one beside it.
            boolean afterLetter = false;
            for (int i = 0; i < length; i++) {
                char c = typed.charAt(i);
                boolean letter = c >= 'a' && c <= 'z';
                if (!letter && (c != '-' || !afterLetter)) {
                    return false;
                }
                afterLetter = letter;
            }
            return afterLetter;
        }

        boolean isSame(Name other) {
            return typed.equals(other.typed);
        }

        boolean isNear(Name other) {
            int length = folded.length();
            int otherLength = other.folded.length();
            if (Math.abs(length - otherLength) > 1) {
                return false;
            }
            // One letter differs, is missing or is more just where the common beginning and the
            // common end leave at most one letter of the longer text over.
            return commonBeginning(folded, other.folded) + commonEnd(folded, other.folded)
                    >= Math.max(length, otherLength) - 1;
        }

        private static String fold(String typed) {
            StringBuilder letters = new StringBuilder();
            for (int i = 0; i < typed.length(); i++) {
                char c = typed.charAt(i);
                if (c != '-') {
                    letters.append(c);
                }
            }
            return letters.toString();
        }

        private static int commonBeginning(String a, String b) {
            int most = Math.min(a.length(), b.length());
            for (int i = 0; i < most; i++) {
                if (a.charAt(i) != b.charAt(i)) {
                    return i;
                }
            }
            return most;
        }

        private static int commonEnd(String a, String b) {
            int most = Math.min(a.length(), b.length());
            for (int i = 0; i < most; i++) {
                if (a.charAt(a.length() - 1 - i) != b.charAt(b.length() - 1 - i)) {
                    return i;
                }
            }
            return most;
        }
    }

    /** A row; it never changes, so that the log and the mirrors can share it. */
    private static final class Row {
        final int kind;
        final int person;
        final Name name;
        /** The NAME that the package has after this row: another one than before at a MOVE. */
        final Name nameAfter;
        /** VERSION or the other person; NONE at a MOVE. */
        final int second;
        /** SUM, or 1 or 0. */
        final int third;
        /** The number of the row that first published the package, whatever its NAME was then. */
        final int origin;
        final long digest;

        Row(int kind, int person, Name name, Name nameAfter, int second, int third, int origin) {
            this.kind = kind;
            this.person = person;
            this.name = name;
            this.nameAfter = nameAfter;
            this.second = second;
            this.third = third;
            this.origin = origin;
            long h = Tree.mix(Tree.mix(0, kind), person);
            h = Tree.mix(Tree.mixText(h, name.typed), NAME_END);
            if (kind == MOVE) {
                h = Tree.mixText(h, nameAfter.typed);
            } else {
                h = Tree.mix(Tree.mix(h, second), third);
            }
            // What is no row has the DIGEST 0.
            this.digest = kind == NONE ? 0 : h;
        }

        Row withSum(int sum) {
            return new Row(kind, person, name, nameAfter, second, sum, origin);
        }
    }

    /** The rows of the log or of a mirror, and the STATE that going through them gives. */
    private static final class Ledger {
        private final Row[] written;
        private final Row noRow;
        private int count;

        Ledger() {
            Name noName = new Name("");
            noRow = new Row(NONE, NONE, noName, noName, NONE, NONE, NONE);
            written = new Row[MAX_ROWS];
            for (int i = 0; i < MAX_ROWS; i++) {
                written[i] = noRow;
            }
            count = 0;
        }

        int size() {
            return count;
        }

        /** A row; what is no row answers NONE to all that is asked of it. */
        Row at(int i) {
            return i >= 0 && i < count ? written[i] : noRow;
        }

        void append(Row added) {
            if (count < MAX_ROWS) {
                written[count] = added;
                count++;
            }
        }

        void replace(int i, Row other) {
            if (i >= 0 && i < count) {
                written[i] = other;
            }
        }

        /** The origin of the package that has this NAME now; NONE if it isn't KNOWN. */
        int originOf(Name name) {
            int origin = NONE;
            for (int i = 0; i < count; i++) {
                Row passed = at(i);
                if (passed.kind == MOVE && passed.name.isSame(name)) {
                    return NONE;
                }
                if (passed.nameAfter.isSame(name)) {
                    origin = passed.origin;
                }
            }
            return origin;
        }

        /** Whether a NAME may become KNOWN; the package with the origin mine may be NEAR it. */
        boolean isFree(Name name, int mine) {
            for (int i = 0; i < count; i++) {
                Row passed = at(i);
                // A NAME that a package ever had is KNOWN or GONE.
                if (passed.nameAfter.isSame(name)) {
                    return false;
                }
                if (passed.origin != mine && passed.nameAfter.isNear(name)
                        && originOf(passed.nameAfter) != NONE) {
                    return false;
                }
            }
            return true;
        }

        int founderOf(int origin) {
            return at(origin).person;
        }

        boolean hasRight(int origin, int person) {
            boolean right = origin != NONE && founderOf(origin) == person;
            for (int i = 0; i < count; i++) {
                Row passed = at(i);
                if (passed.kind == GRANT && passed.origin == origin && passed.second == person) {
                    right = passed.third == 1;
                }
            }
            return right;
        }

        /** The number of the row that published a VERSION; NONE if it isn't there. */
        int publishOf(int origin, int version) {
            for (int i = 0; i < count; i++) {
                Row passed = at(i);
                if (passed.kind == PUBLISH && passed.origin == origin
                        && passed.second == version) {
                    return i;
                }
            }
            return NONE;
        }

        boolean isYanked(int origin, int version) {
            boolean yanked = false;
            for (int i = 0; i < count; i++) {
                Row passed = at(i);
                if (passed.kind == YANK && passed.origin == origin && passed.second == version) {
                    yanked = passed.third == 1;
                }
            }
            return yanked;
        }
    }

    /** A few numbers, added and then read in turn: a PROOF or the HAND. */
    private static final class Numbers {
        private final long[] values;
        private int count;
        /** How many were asked for by next(), those included that weren't there. */
        private int asked;

        Numbers() {
            values = new long[MAX_HAND];
            count = 0;
            asked = 0;
        }

        void clear() {
            count = 0;
            asked = 0;
        }

        int size() {
            return count;
        }

        boolean add(long x) {
            if (count >= MAX_HAND) {
                return false;
            }
            values[count] = x;
            count++;
            return true;
        }

        long get(int k) {
            return k >= 0 && k < count ? values[k] : 0;
        }

        long next() {
            long x = get(asked);
            asked++;
            return x;
        }

        boolean isReadToTheEnd() {
            return asked == count;
        }
    }

    /** The HEADS of the m and of the n rows of a part, as a PROOF of GROWTH makes them. */
    private static final class TwoHeads {
        final long shorter;
        final long longer;

        TwoHeads(long shorter, long longer) {
            this.shorter = shorter;
            this.longer = longer;
        }
    }

    /**
     * DIGESTS, HEADS and PROOFS. Each method that calls itself does so with fewer rows, and a part
     * has at most the greatest power of two below 120 rows: it goes at most eight levels deep.
     */
    private static final class Tree {
        private Tree() {
        }

        static long mix(long h, long x) {
            long y = (h ^ x) * MIX_FACTOR;
            return y ^ (y >>> MIX_SHIFT);
        }

        static long mixText(long h, String characters) {
            long mixed = h;
            for (int i = 0; i < characters.length(); i++) {
                mixed = mix(mixed, characters.charAt(i));
            }
            return mixed;
        }

        private static long join(long a, long b) {
            return mix(mix(1, a), b);
        }

        /** The greatest power of two below n, for n from 2 to 120. */
        private static int firstPart(int n) {
            int k = 1;
            for (int doubled = 2; doubled < n && doubled < MAX_ROWS; doubled = doubled * 2) {
                k = doubled;
            }
            return k;
        }

        private static long headOf(Ledger ledger, int from, int n) {
            if (n < 1 || n > MAX_ROWS) {
                return 0;
            }
            if (n == 1) {
                return ledger.at(from).digest;
            }
            int k = firstPart(n);
            return join(headOf(ledger, from, k), headOf(ledger, from + k, n - k));
        }

        private static void proveInside(Ledger ledger, int from, int n, int i, Numbers proof) {
            if (n <= 1 || n > MAX_ROWS) {
                return;
            }
            int k = firstPart(n);
            if (i < k) {
                proveInside(ledger, from, k, i, proof);
                proof.add(headOf(ledger, from + k, n - k));
            } else {
                proveInside(ledger, from + k, n - k, i - k, proof);
                proof.add(headOf(ledger, from, k));
            }
        }

        private static void proveGrowth(
                Ledger ledger, int from, int n, int m, boolean whole, Numbers proof) {
            if (m >= n || n > MAX_ROWS) {
                if (!whole) {
                    proof.add(headOf(ledger, from, n));
                }
                return;
            }
            int k = firstPart(n);
            if (m <= k) {
                proveGrowth(ledger, from, k, m, whole, proof);
                proof.add(headOf(ledger, from + k, n - k));
            } else {
                proveGrowth(ledger, from + k, n - k, m - k, false, proof);
                proof.add(headOf(ledger, from, k));
            }
        }

        private static long headFromInside(int i, int n, long digest, Numbers proof) {
            if (n <= 1 || n > MAX_ROWS) {
                return digest;
            }
            int k = firstPart(n);
            if (i < k) {
                long left = headFromInside(i, k, digest, proof);
                return join(left, proof.next());
            }
            long right = headFromInside(i - k, n - k, digest, proof);
            return join(proof.next(), right);
        }

        private static TwoHeads headsFromGrowth(
                int m, int n, boolean whole, long first, Numbers proof) {
            if (m >= n || n > MAX_ROWS) {
                // Where the part is all of the m rows, the PROOF leaves its HEAD out: it is first.
                long same = whole ? first : proof.next();
                return new TwoHeads(same, same);
            }
            int k = firstPart(n);
            if (m <= k) {
                TwoHeads left = headsFromGrowth(m, k, whole, first, proof);
                return new TwoHeads(left.shorter, join(left.longer, proof.next()));
            }
            TwoHeads right = headsFromGrowth(m - k, n - k, false, first, proof);
            long left = proof.next();
            return new TwoHeads(join(left, right.shorter), join(left, right.longer));
        }
    }
}
