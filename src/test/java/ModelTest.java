import java.util.Random;

/** Runs of drawn calls (the seeds are fixed), each answer held against the Model's. */
public final class ModelTest {
    private static final int RUNS = 1500;
    /** Below 512, as the last turn of a run may make some 40 calls. */
    private static final int CALLS = 470;
    private static final String[] NAMES = {
        "a", "b", "ab", "abc", "abd", "a-bc", "xyz", "x-yz", "x-y-z", "core", "cores", "kernel",
        "kern-el", "zzzzzzzzzz", "q-r", "mno", "mnop", "uvwst", "", "-a", "a-", "a--b", "Abc",
        "a b", "abcdefghijk", "a>b", "x1"
    };
    private static final String[] ODD_TEXTS = {
        "", "", "", "\u007f\u001f\u0100\uffff", "\u0161", "~ ", "abcdefghij>klmnopqrstuvwxyz"
    };
    private static final int[] ODD = {
        Integer.MIN_VALUE, Integer.MAX_VALUE, -2, -1, 4, 7, 8, 119, 120, 121, 999, 1000
    };

    private Random random;
    private Desk x;
    private Model y;
    private int calls;
    private int names;
    private int accepted;
    private int proven;
    private int refused;

    public static void main(String[] args) {
        Check.run(ModelTest.class);
    }

    static void model_drawnRuns_answerAsTheModel() {
        ModelTest test = new ModelTest();
        for (int seed = 0; seed < RUNS; seed++) {
            test.run(seed);
        }
        System.out.println(test.accepted + " rows came, " + test.proven + " proofs held, "
                + test.refused + " were refused");
        Check.due("enough rows came", test.accepted > 20 * RUNS, true);
        Check.due("enough proofs held", test.proven > RUNS, true);
        Check.due("enough proofs were refused", test.refused > RUNS, true);
    }

    private void run(int seed) {
        random = new Random(seed);
        x = new Desk();
        y = new Model();
        calls = 0;
        names = 1 + random.nextInt(NAMES.length);
        while (calls < CALLS) {
            switch (random.nextInt(9)) {
                case 0:
                case 1:
                    write();
                    break;
                case 2:
                    addVersions();
                    break;
                case 3:
                    ask();
                    break;
                case 4:
                    look();
                    break;
                case 5:
                    prove();
                    break;
                case 6:
                    mirror();
                    break;
                default:
                    type(ODD_TEXTS[random.nextInt(ODD_TEXTS.length)]);
                    break;
            }
        }
    }

    private void due(String call, long got, long want) {
        calls++;
        Check.due(call, got, want);
    }

    private void due(String call, boolean got, boolean want) {
        calls++;
        Check.due(call, got, want);
    }

    private int draw(int bound) {
        return random.nextInt(12) == 0 ? ODD[random.nextInt(ODD.length)] : random.nextInt(bound);
    }

    private String name() {
        return NAMES[random.nextInt(names)];
    }

    private void type(String text) {
        for (int i = 0; i < text.length(); i++) {
            char c = text.charAt(i);
            due("type(" + (int) c + ")", x.type(c), y.type(c));
        }
    }

    private void write() {
        int person = draw(3);
        int second = draw(5);
        int sum = random.nextInt();
        boolean on = random.nextInt(3) != 0;
        int kind = random.nextInt(4);
        type(kind == 3 ? name() + ">" + name() : name());
        int got;
        int want;
        if (kind == 0) {
            got = x.publish("", person, second, sum);
            want = y.publish(person, second, sum);
        } else if (kind == 1) {
            got = x.yank("", person, second, on);
            want = y.yank(person, second, on);
        } else if (kind == 2) {
            got = x.grant("", person, second, on);
            want = y.grant(person, second, on);
        } else {
            got = x.move("", person);
            want = y.move(person);
        }
        accepted += want >= 0 ? 1 : 0;
        due("write " + kind + "(" + person + ", " + second + ", " + on + ")", got, want);
    }

    /** Makes the log long in the half of the runs that are for long logs. */
    private void addVersions() {
        for (int i = 0; i < (names % 2 == 0 ? 8 : 1); i++) {
            type(NAMES[0]);
            int version = random.nextInt(1000);
            int sum = random.nextInt();
            int want = y.publish(0, version, sum);
            accepted += want >= 0 ? 1 : 0;
            due("publish", x.publish("", 0, version, sum), want);
        }
    }

    private void ask() {
        int mirror = random.nextBoolean() ? -1 : draw(4);
        int asked = draw(5);
        type(name());
        switch (random.nextInt(4)) {
            case 0:
                due("founder(" + mirror + ")", x.founder("", mirror), y.founder(mirror));
                break;
            case 1:
                due("has(" + mirror + ", " + asked + ")", x.has("", mirror, asked),
                        y.has(mirror, asked));
                break;
            case 2:
                due("version(" + mirror + ", " + asked + ")", x.version("", mirror, asked),
                        y.version(mirror, asked));
                break;
            default:
                due("sum(" + mirror + ", " + asked + ")", x.sum("", mirror, asked),
                        y.sum(mirror, asked));
                break;
        }
    }

    private void look() {
        int i = draw(y.rows() + 2);
        int what = draw(5);
        due("rows()", x.rows(), y.rows());
        due("row(" + i + ", " + what + ")", x.row(i, what), y.row(i, what));
        due("digest(" + i + ")", x.digest(i), y.digest(i));
        due("head(" + i + ")", x.head(i), y.head(i));
    }

    private void prove() {
        int n = draw(y.rows() + 1);
        int m = draw(Math.max(n, 0) % 130 + 1);
        boolean inside = random.nextBoolean();
        int size = inside ? y.inside(m, n) : y.growth(m, n);
        due(inside ? "inside" : "growth" + "(" + m + ", " + n + ")",
                inside ? x.inside(m, n) : x.growth(m, n), size);
        for (int k = random.nextInt(3) - 1; k <= size; k++) {
            due("proof(" + k + ")", x.proof(k), y.proof(k));
        }
        int spoilt = random.nextInt(24);
        for (int k = 0; k < size + (spoilt == 20 ? 1 : 0) - (spoilt == 21 ? 1 : 0); k++) {
            long number = y.proof(k) + (k == spoilt ? 1 : 0);
            due("take(" + number + ")", x.take(number), y.take(number));
        }
        int of = spoilt == 22 ? draw(9) : m;
        int in = spoilt == 23 ? draw(121) : n;
        long first = inside ? y.digest(m) : y.head(m);
        boolean want = inside ? y.isInside(of, in, first, y.head(n))
                : y.isGrowth(of, in, first, y.head(n));
        proven += want ? 1 : 0;
        refused += want ? 0 : 1;
        due("isInside or isGrowth(" + of + ", " + in + ")",
                inside ? x.isInside(of, in, first, y.head(n))
                : x.isGrowth(of, in, first, y.head(n)), want);
    }

    private void mirror() {
        int mirror = draw(4);
        int n = draw(12);
        int sum = random.nextInt(3);
        switch (random.nextInt(3)) {
            case 0:
                due("follow(" + mirror + ", " + n + ")", x.follow(mirror, n),
                        y.follow(mirror, n));
                break;
            case 1:
                due("spoil(" + mirror + ", " + n + ")", x.spoil(mirror, n, sum),
                        y.spoil(mirror, n, sum));
                break;
            default:
                due("mirrored(" + mirror + ")", x.mirrored(mirror), y.mirrored(mirror));
                due("apart(" + mirror + ")", x.apart(mirror), y.apart(mirror));
                break;
        }
    }
}
