/** Promise 18: spoil. */
public final class Promise18SpoilTest {
    private static final int LOG = Desk.LOG;

    public static void main(String[] args) {
        Check.run(Promise18SpoilTest.class);
    }

    /** Six rows; the mirrors 0 and 3 have four of them. */
    private static Desk withMirrors() {
        Desk d = Desk.withRows(6);
        d.follow(0, 4);
        d.follow(3, 4);
        return d;
    }

    private static void notSpoilt(Desk d, int mirror, int i) {
        String before = d.seen();
        Check.due("spoil(" + mirror + ", " + i + ")", d.spoil(mirror, i, 77), false);
        Check.due("what is seen behind it", d.seen(), before);
    }

    static void promise18_row0_isSpoilt() {
        Desk d = withMirrors();
        Check.due("spoil(0, 0, 77)", d.spoil(0, 0, 77), true);
        Check.due("sum", d.sum("a", 0, 0), 77);
    }

    static void promise18_theMirrorsLastRow_isSpoilt() {
        Desk d = withMirrors();
        Check.due("spoil(0, 3, 77)", d.spoil(0, 3, 77), true);
        Check.due("sum", d.sum("a", 0, 3), 77);
    }

    static void promise18_theRowBehindTheMirrorsLast_isNone() {
        Desk d = withMirrors();
        notSpoilt(d, 0, 4);
        notSpoilt(d, 0, 5);
        d.follow(0, 2);
        Check.due("the row came as it is", d.sum("a", 0, 4), 104);
    }

    static void promise18_theRowBehindTheLogsLast_isNone() {
        Desk d = withMirrors();
        d.follow(0, 2);
        notSpoilt(d, 0, 6);
    }

    static void promise18_rowMinus1_isNone() {
        notSpoilt(withMirrors(), 0, -1);
    }

    static void promise18_rowsFarOut_areNone() {
        Desk d = withMirrors();
        for (int i : Desk.FAR_OUT) {
            notSpoilt(d, 0, i);
        }
    }

    static void promise18_aMirrorWithoutRows_hasNone() {
        notSpoilt(withMirrors(), 1, 0);
        notSpoilt(new Desk(), 0, 0);
    }

    static void promise18_row119_isSpoilt() {
        Desk d = Desk.withRows(120);
        d.follow(2, 120);
        Check.due("spoil(2, 119, 77)", d.spoil(2, 119, 77), true);
        Check.due("sum", d.sum("a", 2, 119), 77);
        notSpoilt(d, 2, 120);
    }

    static void promise18_mirrors0And3_areSpoilt() {
        Desk d = withMirrors();
        Check.due("spoil(0, 1, 77)", d.spoil(0, 1, 77), true);
        Check.due("spoil(3, 1, 78)", d.spoil(3, 1, 78), true);
        Check.due("sum in 0", d.sum("a", 0, 1), 77);
        Check.due("sum in 3", d.sum("a", 3, 1), 78);
    }

    static void promise18_mirrorMinus1_isNone() {
        notSpoilt(withMirrors(), -1, 0);
    }

    static void promise18_mirror4_isNone() {
        notSpoilt(withMirrors(), 4, 0);
    }

    static void promise18_mirrorsFarOut_areNone() {
        Desk d = withMirrors();
        for (int mirror : Desk.FAR_OUT) {
            notSpoilt(d, mirror, 0);
        }
    }

    static void promise18_aYank_isNoPublish() {
        Desk d = Desk.withCore();
        d.yank("core", 0, 1, true);
        d.follow(0, 2);
        notSpoilt(d, 0, 1);
    }

    static void promise18_aGrant_isNoPublish() {
        Desk d = Desk.withCore();
        d.grant("core", 0, 5, true);
        d.follow(0, 2);
        notSpoilt(d, 0, 1);
    }

    static void promise18_aMove_isNoPublish() {
        Desk d = Desk.withCore();
        d.move("core>kernel", 0);
        d.follow(0, 2);
        notSpoilt(d, 0, 1);
    }

    static void promise18_everySum_isTaken() {
        Desk d = withMirrors();
        for (int sum : new int[] {Desk.LEAST, -1, 0, 1, Desk.GREATEST}) {
            Check.due("spoil(0, 2, " + sum + ")", d.spoil(0, 2, sum), true);
            Check.due("sum", d.sum("a", 0, 2), sum);
            long spoilt = Exact.mixAll(0, 0, 'a', 256, 2, sum);
            Check.due("mirrored(0)", d.mirrored(0),
                    Exact.join(d.head(2), Exact.join(spoilt, d.digest(3))));
        }
    }

    static void promise18_theSumThatItHas_isTakenToo() {
        Desk d = withMirrors();
        Check.due("spoil(0, 2, 102)", d.spoil(0, 2, 102), true);
        Check.due("sum", d.sum("a", 0, 2), 102);
        Check.due("mirrored(0)", d.mirrored(0), d.head(4));
    }

    static void promise18_aSpoiltRow_isSpoiltAgain() {
        Desk d = withMirrors();
        d.spoil(0, 2, 77);
        Check.due("spoil(0, 2, 78)", d.spoil(0, 2, 78), true);
        Check.due("sum", d.sum("a", 0, 2), 78);
        Check.due("spoil(0, 2, 102)", d.spoil(0, 2, 102), true);
        Check.due("mirrored(0)", d.mirrored(0), d.head(4));
    }

    static void promise18_theLog_staysAsItIs() {
        Desk d = withMirrors();
        long head = d.head(6);
        d.spoil(0, 2, 77);
        Check.due("head(6)", d.head(6), head);
        Check.due("row(2, 3)", d.row(2, 3), 102);
        Check.due("sum", d.sum("a", LOG, 2), 102);
    }

    static void promise18_anotherMirror_staysAsItIs() {
        Desk d = withMirrors();
        d.spoil(0, 2, 77);
        Check.due("mirrored(3)", d.mirrored(3), d.head(4));
        Check.due("sum", d.sum("a", 3, 2), 102);
    }

    static void promise18_theMirrorsOtherRows_stayAsTheyAre() {
        Desk d = withMirrors();
        d.spoil(0, 2, 77);
        Check.due("sum of 1", d.sum("a", 0, 1), 101);
        Check.due("sum of 3", d.sum("a", 0, 3), 103);
        Check.due("founder", d.founder("a", 0), 0);
        Check.due("version", d.version("a", 0, 2), 1);
    }

    static void promise18_behindAMove_theSumIsTheOtherNames() {
        Desk d = Desk.withCore();
        d.yank("core", 0, 1, true);
        d.move("core>kernel", 0);
        d.follow(0, 3);
        Check.due("spoil(0, 0, 77)", d.spoil(0, 0, 77), true);
        Check.due("sum", d.sum("kernel", 0, 1), 77);
        Check.due("version", d.version("kernel", 0, 1), 2);
        Check.due("sum in the log", d.sum("kernel", LOG, 1), 11);
    }
}
