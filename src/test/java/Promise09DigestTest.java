/** Promise 9: digest. (MIX with 64 bits and signs: TermsDigestsTest.) */
public final class Promise09DigestTest {
    public static void main(String[] args) {
        Check.run(Promise09DigestTest.class);
    }

    private static Desk withEachKind() {
        Desk d = new Desk();
        d.publish("co-re", 6, 5, -55);
        d.yank("co-re", 6, 5, true);
        d.yank("co-re", 6, 5, false);
        d.grant("co-re", 6, 3, true);
        d.grant("co-re", 6, 3, false);
        d.move("co-re>ker-n", 6);
        return d;
    }

    static void promise09_publish_mixesVersionAndSum() {
        Check.due("digest", withEachKind().digest(0),
                Exact.mixAll(0, 6, 'c', 'o', '-', 'r', 'e', 256, 5, -55));
    }

    static void promise09_yank_mixesVersionAnd1() {
        Check.due("digest", withEachKind().digest(1),
                Exact.mixAll(1, 6, 'c', 'o', '-', 'r', 'e', 256, 5, 1));
    }

    static void promise09_yankBack_mixesVersionAnd0() {
        Check.due("digest", withEachKind().digest(2),
                Exact.mixAll(1, 6, 'c', 'o', '-', 'r', 'e', 256, 5, 0));
    }

    static void promise09_grant_mixesTheOtherPersonAnd1() {
        Check.due("digest", withEachKind().digest(3),
                Exact.mixAll(2, 6, 'c', 'o', '-', 'r', 'e', 256, 3, 1));
    }

    static void promise09_grantBack_mixesTheOtherPersonAnd0() {
        Check.due("digest", withEachKind().digest(4),
                Exact.mixAll(2, 6, 'c', 'o', '-', 'r', 'e', 256, 3, 0));
    }

    static void promise09_move_mixesTheOtherName() {
        Check.due("digest", withEachKind().digest(5),
                Exact.mixAll(3, 6, 'c', 'o', '-', 'r', 'e', 256, 'k', 'e', 'r', '-', 'n'));
    }

    static void promise09_eachKind_isAsWorkedOutElsewhere() {
        Desk d = Desk.withCore();
        d.yank("core", 0, 1, true);
        d.yank("core", 0, 1, false);
        d.grant("core", 0, 7, true);
        d.grant("core", 0, 7, false);
        d.move("core>co-res", 0);
        long[] due = {
            -3002065283533915956L, 5910711022925439293L, -1135318231181774692L,
            887327243272933088L, -6158702024240547671L, -2251949483666957921L
        };
        for (int i = 0; i < due.length; i++) {
            Check.due("digest(" + i + ")", d.digest(i), due[i]);
        }
    }

    static void promise09_namesOf1And10Characters_areMixedWhole() {
        Desk d = new Desk();
        d.publish("q", 0, 0, 0);
        d.publish("abcdefghij", 0, 0, 0);
        Check.due("digest of q", d.digest(0), Exact.mixAll(0, 0, 'q', 256, 0, 0));
        Check.due("digest of abcdefghij", d.digest(1), Exact.mixAll(0, 0, 'a', 'b', 'c', 'd',
                'e', 'f', 'g', 'h', 'i', 'j', 256, 0, 0));
    }

    static void promise09_theRowsNumber_isNotMixed() {
        Desk d = new Desk();
        d.publish("zebra", 1, 0, 0);
        d.publish("core", 0, 1, 11);
        Check.due("digest", d.digest(1), Desk.withCore().digest(0));
    }

    static void promise09_aRowBehindAMove_hasTheNameItWasWrittenWith() {
        Desk d = Desk.withCore();
        long first = d.digest(0);
        d.move("core>ab", 0);
        d.publish("ab", 0, 2, 22);
        Check.due("digest(0)", d.digest(0), first);
        Check.due("digest(2)", d.digest(2), Exact.mixAll(0, 0, 'a', 'b', 256, 2, 22));
    }

    static void promise09_inAnEmptyLog_itIs0() {
        Desk d = new Desk();
        Check.due("digest(0)", d.digest(0), 0);
        Check.due("digest(-1)", d.digest(-1), 0);
        Check.due("digest(119)", d.digest(119), 0);
    }

    static void promise09_rowMinus1_is0() {
        Check.due("digest(-1)", withEachKind().digest(-1), 0);
    }

    static void promise09_theRowBehindTheLast_is0() {
        Check.due("digest(6)", withEachKind().digest(6), 0);
        Check.due("digest(7)", withEachKind().digest(7), 0);
    }

    static void promise09_rowsFarOut_are0() {
        Desk d = withEachKind();
        for (int i : Desk.FAR_OUT) {
            Check.due("digest(" + i + ")", d.digest(i), 0);
        }
    }

    static void promise09_row119OfAFullLog_isThere() {
        Check.due("digest(119)", Desk.withRows(120).digest(119),
                Exact.mixAll(0, 0, 'a', 256, 119, 219));
    }

    static void promise09_row120OfAFullLog_is0() {
        Check.due("digest(120)", Desk.withRows(120).digest(120), 0);
    }

    static void promise09_aRefusedRow_hasNone() {
        Desk d = Desk.withCore();
        d.publish("core", 0, 1, 12);
        Check.due("digest(1)", d.digest(1), 0);
    }

    static void promise09_aRowSpoiltInAMirror_keepsItsOwnInTheLog() {
        Desk d = Desk.withCore();
        long first = d.digest(0);
        d.follow(2, 1);
        d.spoil(2, 0, 12);
        Check.due("digest(0)", d.digest(0), first);
    }
}
