import java.util.ArrayList;
import java.util.HashMap;
import java.util.HashSet;
import java.util.List;
import java.util.Map;
import java.util.Set;

/**
 * The document once more, held in another way: STATE as maps that are made anew for each question,
 * and proofs checked by the bits of the numbers (as RFC 9162 does it) instead of by parts.
 */
final class Model {
    static final int NONE = -1;

    private static final class Row {
        int kind;
        int person;
        String name;
        int second;
        int third;
        String other = "";

        Row copy() {
            Row r = new Row();
            r.kind = kind;
            r.person = person;
            r.name = name;
            r.second = second;
            r.third = third;
            r.other = other;
            return r;
        }

        long digest() {
            List<Long> xs = new ArrayList<>();
            xs.add((long) kind);
            xs.add((long) person);
            name.chars().forEach(c -> xs.add((long) c));
            xs.add(256L);
            if (kind == 3) {
                other.chars().forEach(c -> xs.add((long) c));
            } else {
                xs.add((long) second);
                xs.add((long) third);
            }
            long h = 0;
            for (long x : xs) {
                h = mix(h, x);
            }
            return h;
        }
    }

    private static final class Package {
        int founder;
        final Set<Integer> rights = new HashSet<>();
        final Map<Integer, Integer> sums = new HashMap<>();
        final Set<Integer> yanked = new HashSet<>();
    }

    private static final class State {
        final Map<String, Package> known = new HashMap<>();
        final Set<String> gone = new HashSet<>();

        State(List<Row> rows) {
            for (Row r : rows) {
                pass(r);
            }
        }

        private void pass(Row r) {
            Package p = known.get(r.name);
            if (r.kind == 0) {
                if (p == null) {
                    p = new Package();
                    p.founder = r.person;
                    p.rights.add(r.person);
                    known.put(r.name, p);
                }
                p.sums.put(r.second, r.third);
            } else if (r.kind == 1) {
                if (r.third == 1) {
                    p.yanked.add(r.second);
                } else {
                    p.yanked.remove(r.second);
                }
            } else if (r.kind == 2) {
                if (r.third == 1) {
                    p.rights.add(r.second);
                } else {
                    p.rights.remove(r.second);
                }
            } else {
                known.remove(r.name);
                gone.add(r.name);
                known.put(r.other, p);
            }
        }

        boolean isFree(String name, String but) {
            if (known.containsKey(name) || gone.contains(name)) {
                return false;
            }
            for (String k : known.keySet()) {
                if (!k.equals(but) && isNear(k, name)) {
                    return false;
                }
            }
            return true;
        }
    }

    private String text = "";
    private final List<Row> log = new ArrayList<>();
    private final List<List<Row>> mirrors = new ArrayList<>();
    private List<Long> proof = new ArrayList<>();
    private final List<Long> hand = new ArrayList<>();

    Model() {
        for (int i = 0; i < 4; i++) {
            mirrors.add(new ArrayList<>());
        }
    }

    static long mix(long h, long x) {
        long y = (h ^ x) * 0x9E3779B97F4A7C15L;
        return y ^ (y >>> 29);
    }

    static long mixAll(long... xs) {
        long h = 0;
        for (long x : xs) {
            h = mix(h, x);
        }
        return h;
    }

    static long join(long a, long b) {
        return mix(mix(1, a), b);
    }

    static long headOf(List<Long> digests) {
        if (digests.isEmpty()) {
            return 0;
        }
        if (digests.size() == 1) {
            return digests.get(0);
        }
        int k = Integer.highestOneBit(digests.size() - 1);
        return join(headOf(digests.subList(0, k)), headOf(digests.subList(k, digests.size())));
    }

    static boolean isName(String s) {
        return s.length() <= 10 && s.matches("[a-z]+(-[a-z]+)*");
    }

    static boolean isNear(String a, String b) {
        return distance(a.replace("-", ""), b.replace("-", "")) <= 1;
    }

    private static int distance(String a, String b) {
        int[][] d = new int[a.length() + 1][b.length() + 1];
        for (int i = 0; i <= a.length(); i++) {
            for (int j = 0; j <= b.length(); j++) {
                if (i == 0 || j == 0) {
                    d[i][j] = i + j;
                } else {
                    int change = a.charAt(i - 1) == b.charAt(j - 1) ? 0 : 1;
                    d[i][j] = Math.min(d[i - 1][j - 1] + change,
                            1 + Math.min(d[i - 1][j], d[i][j - 1]));
                }
            }
        }
        return d[a.length()][b.length()];
    }

    boolean type(char c) {
        if (c < 32 || c > 126 || text.length() == 24) {
            return false;
        }
        text += c;
        return true;
    }

    private String takeText() {
        String taken = text;
        text = "";
        return taken;
    }

    private static boolean isPerson(int p) {
        return p >= 0 && p <= 7;
    }

    private static boolean isVersion(int v) {
        return v >= 0 && v <= 999;
    }

    private int write(boolean arguments, boolean mayCome, Row r) {
        if (!arguments) {
            return Desk.ARGUMENT;
        }
        if (!mayCome || log.size() == 120) {
            return Desk.STATE;
        }
        log.add(r);
        return log.size() - 1;
    }

    private static Row rowOf(int kind, int person, String name, int second, int third) {
        Row r = new Row();
        r.kind = kind;
        r.person = person;
        r.name = name;
        r.second = second;
        r.third = third;
        return r;
    }

    int publish(int person, int version, int sum) {
        String name = takeText();
        State s = new State(log);
        Package p = s.known.get(name);
        boolean mayCome = p == null ? s.isFree(name, "")
                : p.rights.contains(person) && !p.sums.containsKey(version);
        return write(isName(name) && isPerson(person) && isVersion(version), mayCome,
                rowOf(0, person, name, version, sum));
    }

    int yank(int person, int version, boolean on) {
        String name = takeText();
        Package p = new State(log).known.get(name);
        boolean mayCome = p != null && p.rights.contains(person) && p.sums.containsKey(version)
                && p.yanked.contains(version) != on;
        return write(isName(name) && isPerson(person) && isVersion(version), mayCome,
                rowOf(1, person, name, version, on ? 1 : 0));
    }

    int grant(int person, int other, boolean on) {
        String name = takeText();
        Package p = new State(log).known.get(name);
        boolean mayCome = p != null && p.founder == person && p.founder != other
                && p.rights.contains(other) != on;
        return write(isName(name) && isPerson(person) && isPerson(other), mayCome,
                rowOf(2, person, name, other, on ? 1 : 0));
    }

    int move(int person) {
        String[] both = takeText().split(">", -1);
        if (both.length != 2) {
            return Desk.ARGUMENT;
        }
        State s = new State(log);
        Package p = s.known.get(both[0]);
        Row r = rowOf(3, person, both[0], NONE, 0);
        r.other = both[1];
        return write(isName(both[0]) && isName(both[1]) && isPerson(person),
                p != null && p.founder == person && s.isFree(both[1], both[0]), r);
    }

    int rows() {
        return log.size();
    }

    int row(int i, int what) {
        if (i < 0 || i >= log.size() || what < 0 || what > 3) {
            return NONE;
        }
        Row r = log.get(i);
        return new int[] {r.kind, r.person, r.second, r.third}[what];
    }

    long digest(int i) {
        return i < 0 || i >= log.size() ? 0 : log.get(i).digest();
    }

    private static List<Long> digests(List<Row> rows, int n) {
        List<Long> all = new ArrayList<>();
        for (Row r : rows.subList(0, n)) {
            all.add(r.digest());
        }
        return all;
    }

    long head(int n) {
        return n < 0 || n > log.size() ? 0 : headOf(digests(log, n));
    }

    int inside(int i, int n) {
        proof = new ArrayList<>();
        if (n > log.size() || i < 0 || i >= n) {
            return NONE;
        }
        proof = insideProof(i, digests(log, n));
        return proof.size();
    }

    static List<Long> insideProof(int i, List<Long> d) {
        if (d.size() == 1) {
            return new ArrayList<>();
        }
        int k = Integer.highestOneBit(d.size() - 1);
        List<Long> left = d.subList(0, k);
        List<Long> right = d.subList(k, d.size());
        List<Long> p = i < k ? insideProof(i, left) : insideProof(i - k, right);
        p.add(headOf(i < k ? right : left));
        return p;
    }

    int growth(int m, int n) {
        proof = new ArrayList<>();
        if (n > log.size() || m < 1 || m > n) {
            return NONE;
        }
        proof = growthProof(m, digests(log, n), true);
        return proof.size();
    }

    static List<Long> growthProof(int m, List<Long> d, boolean w) {
        List<Long> p = new ArrayList<>();
        if (m == d.size()) {
            if (!w) {
                p.add(headOf(d));
            }
            return p;
        }
        int k = Integer.highestOneBit(d.size() - 1);
        List<Long> left = d.subList(0, k);
        List<Long> right = d.subList(k, d.size());
        p = m <= k ? growthProof(m, left, w) : growthProof(m - k, right, false);
        p.add(headOf(m <= k ? right : left));
        return p;
    }

    long proof(int k) {
        return k < 0 || k >= proof.size() ? 0 : proof.get(k);
    }

    boolean take(long x) {
        return hand.size() < 16 && hand.add(x);
    }

    boolean isInside(int i, int n, long digest, long head) {
        List<Long> path = new ArrayList<>(hand);
        hand.clear();
        if (n < 1 || n > 120 || i < 0 || i >= n) {
            return false;
        }
        int fn = i;
        int sn = n - 1;
        long r = digest;
        for (long p : path) {
            if (sn == 0) {
                return false;
            }
            if (fn % 2 == 1 || fn == sn) {
                r = join(p, r);
                while (fn % 2 == 0 && fn != 0) {
                    fn /= 2;
                    sn /= 2;
                }
            } else {
                r = join(r, p);
            }
            fn /= 2;
            sn /= 2;
        }
        return sn == 0 && r == head;
    }

    boolean isGrowth(int m, int n, long first, long second) {
        List<Long> path = new ArrayList<>(hand);
        hand.clear();
        if (n < 1 || n > 120 || m < 1 || m > n) {
            return false;
        }
        if (m == n) {
            return path.isEmpty() && first == second;
        }
        if (Integer.bitCount(m) == 1) {
            path.add(0, first);
        }
        if (path.isEmpty()) {
            return false;
        }
        int fn = m - 1;
        int sn = n - 1;
        while (fn % 2 == 1) {
            fn /= 2;
            sn /= 2;
        }
        long fr = path.get(0);
        long sr = fr;
        for (long c : path.subList(1, path.size())) {
            if (sn == 0) {
                return false;
            }
            if (fn % 2 == 1 || fn == sn) {
                fr = join(c, fr);
                sr = join(c, sr);
                while (fn % 2 == 0 && fn != 0) {
                    fn /= 2;
                    sn /= 2;
                }
            } else {
                sr = join(sr, c);
            }
            fn /= 2;
            sn /= 2;
        }
        return sn == 0 && fr == first && sr == second;
    }

    private static boolean isMirror(int mirror) {
        return mirror >= 0 && mirror < 4;
    }

    int follow(int mirror, int n) {
        if (!isMirror(mirror) || n < 0) {
            return NONE;
        }
        List<Row> copy = mirrors.get(mirror);
        int count = 0;
        while (count < n && copy.size() < log.size()) {
            copy.add(log.get(copy.size()).copy());
            count++;
        }
        return count;
    }

    boolean spoil(int mirror, int i, int sum) {
        if (!isMirror(mirror) || i < 0 || i >= mirrors.get(mirror).size()
                || mirrors.get(mirror).get(i).kind != 0) {
            return false;
        }
        mirrors.get(mirror).get(i).third = sum;
        return true;
    }

    long mirrored(int mirror) {
        return isMirror(mirror)
                ? headOf(digests(mirrors.get(mirror), mirrors.get(mirror).size())) : 0;
    }

    int apart(int mirror) {
        if (isMirror(mirror)) {
            for (int n = 1; n <= mirrors.get(mirror).size(); n++) {
                if (headOf(digests(mirrors.get(mirror), n)) != headOf(digests(log, n))) {
                    return n;
                }
            }
        }
        return NONE;
    }

    private Package asked(int mirror) {
        String name = takeText();
        if (mirror != NONE && !isMirror(mirror)) {
            return null;
        }
        return new State(mirror == NONE ? log : mirrors.get(mirror)).known.get(name);
    }

    int founder(int mirror) {
        Package p = asked(mirror);
        return p == null ? NONE : p.founder;
    }

    boolean has(int mirror, int person) {
        Package p = asked(mirror);
        return p != null && p.rights.contains(person);
    }

    int version(int mirror, int version) {
        Package p = asked(mirror);
        if (p == null || !p.sums.containsKey(version)) {
            return 0;
        }
        return p.yanked.contains(version) ? 2 : 1;
    }

    int sum(int mirror, int version) {
        Package p = asked(mirror);
        return p == null ? 0 : p.sums.getOrDefault(version, 0);
    }
}
