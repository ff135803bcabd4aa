/** Promise 8: row. */
public final class Promise08RowTest {
    public static void main(String[] args) {
        Check.run(Promise08RowTest.class);
    }

    private static void row(Desk d, int i, int kind, int person, int second, int third) {
        Check.due("row(" + i + ", 0)", d.row(i, 0), kind);
        Check.due("row(" + i + ", 1)", d.row(i, 1), person);
        Check.due("row(" + i + ", 2)", d.row(i, 2), second);
        Check.due("row(" + i + ", 3)", d.row(i, 3), third);
    }

    private static void noRow(Desk d, int i) {
        row(d, i, -1, -1, -1, -1);
    }

    /** One row of each KIND, by person 6. */
    private static Desk withEachKind() {
        Desk d = new Desk();
        d.publish("core", 6, 5, 55);
        d.yank("core", 6, 5, true);
        d.grant("core", 6, 3, true);
        d.move("core>kernel", 6);
        return d;
    }

    static void promise08_publish_hasVersionAndSum() {
        row(withEachKind(), 0, 0, 6, 5, 55);
    }

    static void promise08_yank_hasVersionAnd1() {
        row(withEachKind(), 1, 1, 6, 5, 1);
    }

    static void promise08_yankBack_hasVersionAnd0() {
        Desk d = withEachKind();
        d.yank("kernel", 6, 5, false);
        row(d, 4, 1, 6, 5, 0);
    }

    static void promise08_grant_hasTheOtherPersonAnd1() {
        row(withEachKind(), 2, 2, 6, 3, 1);
    }

    static void promise08_grantBack_hasTheOtherPersonAnd0() {
        Desk d = withEachKind();
        d.grant("kernel", 6, 3, false);
        row(d, 4, 2, 6, 3, 0);
    }

    static void promise08_move_hasNoneAnd0() {
        row(withEachKind(), 3, 3, 6, -1, 0);
    }

    static void promise08_theLeastOfEach_isAnswered() {
        Desk d = new Desk();
        d.publish("core", 0, 0, Desk.LEAST);
        d.publish("zebra", 1, 0, 0);
        d.grant("zebra", 1, 0, true);
        row(d, 0, 0, 0, 0, Desk.LEAST);
        row(d, 1, 0, 1, 0, 0);
        row(d, 2, 2, 1, 0, 1);
    }

    static void promise08_theGreatestOfEach_isAnswered() {
        Desk d = new Desk();
        d.publish("core", 7, 999, Desk.GREATEST);
        d.publish("zebra", 0, 999, -1);
        d.grant("zebra", 0, 7, true);
        d.yank("zebra", 7, 999, true);
        row(d, 0, 0, 7, 999, Desk.GREATEST);
        row(d, 1, 0, 0, 999, -1);
        row(d, 2, 2, 0, 7, 1);
        row(d, 3, 1, 7, 999, 1);
    }

    static void promise08_inAnEmptyLog_thereIsNone() {
        Desk d = new Desk();
        noRow(d, 0);
        noRow(d, -1);
        noRow(d, 119);
    }

    static void promise08_rowMinus1_isNone() {
        noRow(withEachKind(), -1);
    }

    static void promise08_theRowBehindTheLast_isNone() {
        noRow(withEachKind(), 4);
        noRow(withEachKind(), 5);
    }

    static void promise08_rowsFarOut_areNone() {
        Desk d = withEachKind();
        for (int i : Desk.FAR_OUT) {
            noRow(d, i);
        }
    }

    static void promise08_row119OfAFullLog_isThere() {
        Desk d = Desk.withRows(120);
        row(d, 0, 0, 0, 0, 100);
        row(d, 119, 0, 0, 119, 219);
    }

    static void promise08_row120OfAFullLog_isNone() {
        noRow(Desk.withRows(120), 120);
    }

    static void promise08_row119Of119_isNone() {
        noRow(Desk.withRows(119), 119);
    }

    static void promise08_whatMinus1_isNone() {
        Desk d = withEachKind();
        for (int i = -1; i < 5; i++) {
            Check.due("row(" + i + ", -1)", d.row(i, -1), -1);
        }
    }

    static void promise08_what4_isNone() {
        Desk d = withEachKind();
        for (int i = -1; i < 5; i++) {
            Check.due("row(" + i + ", 4)", d.row(i, 4), -1);
        }
    }

    static void promise08_whatsFarOut_areNone() {
        Desk d = withEachKind();
        for (int what : Desk.FAR_OUT) {
            Check.due("row(0, " + what + ")", d.row(0, what), -1);
            Check.due("row(9, " + what + ")", d.row(9, what), -1);
        }
    }

    static void promise08_aRowSpoiltInAMirror_staysInTheLog() {
        Desk d = withEachKind();
        d.follow(0, 4);
        d.spoil(0, 0, 66);
        row(d, 0, 0, 6, 5, 55);
    }

    static void promise08_aRefusedRow_isNone() {
        Desk d = withEachKind();
        d.publish("kernel", 6, 5, 1);
        noRow(d, 4);
    }
}
