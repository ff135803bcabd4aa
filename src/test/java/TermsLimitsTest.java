/** Terms: PEOPLE 0 .. 7, VERSIONS 0 .. 999, SUMS, 120 ROWS from 0, MIRRORS 0 .. 3. */
public final class TermsLimitsTest {
    private static final int A = Desk.ARGUMENT;
    private static final int S = Desk.STATE;
    private static final int LOG = Desk.LOG;

    public static void main(String[] args) {
        Check.run(TermsLimitsTest.class);
    }

    static void terms_people_are0To7() {
        for (int person = -3; person <= 11; person++) {
            boolean there = person >= 0 && person <= 7;
            Desk d = new Desk();
            Check.due("publish by " + person, d.publish("core", person, 0, 0), there ? 0 : A);
            Check.due("founder", d.founder("core", LOG), there ? person : -1);
            Check.due("has " + person, d.has("core", LOG, person), there);
            Check.due("yank by " + person, d.yank("core", person, 0, true), there ? 1 : A);
            Check.due("grant by " + person,
                    d.grant("core", person, person == 5 ? 6 : 5, true), there ? 2 : A);
            Check.due("move by " + person, d.move("core>kernel", person), there ? 3 : A);
        }
    }

    static void terms_peopleWithARight_are0To7() {
        for (int other = -3; other <= 11; other++) {
            boolean there = other >= 0 && other <= 7;
            Desk d = new Desk();
            d.publish("core", other == 4 ? 3 : 4, 0, 0);
            Check.due("grant to " + other,
                    d.grant("core", other == 4 ? 3 : 4, other, true), there ? 1 : A);
            Check.due("has " + other, d.has("core", LOG, other), there);
        }
    }

    static void terms_versions_are0To999() {
        for (int version : new int[] {-2, -1, 0, 1, 500, 998, 999, 1000, 1001}) {
            boolean there = version >= 0 && version <= 999;
            Desk d = new Desk();
            Check.due("publish of " + version, d.publish("core", 0, version, 7), there ? 0 : A);
            Check.due("version " + version, d.version("core", LOG, version), there ? 1 : 0);
            Check.due("sum " + version, d.sum("core", LOG, version), there ? 7 : 0);
            Check.due("yank of " + version, d.yank("core", 0, version, true), there ? 1 : A);
            Check.due("version " + version, d.version("core", LOG, version), there ? 2 : 0);
        }
    }

    static void terms_sums_areIntsWithTheirSign() {
        int[] sums = {Desk.LEAST, Desk.LEAST + 1, -65536, -1, 0, 1, 65536, Desk.GREATEST};
        for (int sum : sums) {
            Desk d = new Desk();
            Check.due("publish", d.publish("a", 0, 0, sum), 0);
            Check.due("row", d.row(0, 3), sum);
            Check.due("sum", d.sum("a", LOG, 0), sum);
            Check.due("digest", d.digest(0), Exact.mixAll(0, 0, 'a', 256, 0, sum));
        }
    }

    static void terms_rows_areAtMost120() {
        Desk d = Desk.withRows(118);
        Check.due("row 118", d.publish("a", 0, 800, 0), 118);
        Check.due("row 119", d.publish("a", 0, 801, 0), 119);
        Check.due("row 120", d.publish("a", 0, 802, 0), S);
        Check.due("row 120 again", d.publish("a", 0, 802, 0), S);
        Check.due("rows", d.rows(), 120);
    }

    static void terms_rows_areNumberedFrom0() {
        Desk d = new Desk();
        for (int i = 0; i < 120; i++) {
            Check.due("publish", d.publish("a", 0, i, i), i);
            Check.due("row", d.row(i, 3), i);
        }
    }

    static void terms_aFullLog_isStillReadAndFollowed() {
        Desk d = Desk.withRows(120);
        d.publish("a", 0, 900, 0);
        Check.due("row", d.row(119, 3), 219);
        Check.due("inside", d.inside(119, 120), 6);
        Check.due("growth", d.growth(64, 120), 1);
        Check.due("follow", d.follow(0, 120), 120);
        Check.due("spoil", d.spoil(0, 119, 5), true);
        Check.due("apart", d.apart(0), 120);
        Check.due("sum", d.sum("a", 0, 119), 5);
    }

    static void terms_mirrors_are0To3() {
        for (int mirror = -3; mirror <= 7; mirror++) {
            boolean there = mirror >= 0 && mirror <= 3;
            boolean asked = there || mirror == LOG;
            Desk d = Desk.withCore();
            Check.due("follow(" + mirror + ")", d.follow(mirror, 1), there ? 1 : -1);
            Check.due("mirrored(" + mirror + ")", d.mirrored(mirror), there ? d.head(1) : 0);
            Check.due("founder(" + mirror + ")", d.founder("core", mirror), asked ? 0 : -1);
            Check.due("has(" + mirror + ")", d.has("core", mirror, 0), asked);
            Check.due("version(" + mirror + ")", d.version("core", mirror, 1), asked ? 1 : 0);
            Check.due("sum(" + mirror + ")", d.sum("core", mirror, 1), asked ? 11 : 0);
            Check.due("spoil(" + mirror + ")", d.spoil(mirror, 0, 5), there);
            Check.due("apart(" + mirror + ")", d.apart(mirror), there ? 1 : -1);
        }
    }

    /** The document's first section: an object is used for at most 512 calls. */
    static void terms_the512thCall_isAnswered() {
        Desk d = Desk.withRows(120);
        for (int call = 241; call < 511; call++) {
            d.take(call);
        }
        d.type('a');
        Check.due("the 512th call", d.founder("", LOG), 0);
    }
}
