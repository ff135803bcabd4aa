import java.util.ArrayList;
import java.util.List;

/** Promise 10: head. (How a HEAD is made: TermsDigestsTest.) */
public final class Promise10HeadTest {
    public static void main(String[] args) {
        Check.run(Promise10HeadTest.class);
    }

    static void promise10_ofNone_is0() {
        Check.due("head(0)", Desk.withRows(3).head(0), 0);
    }

    static void promise10_inAnEmptyLog_itIs0() {
        Desk d = new Desk();
        Check.due("head(0)", d.head(0), 0);
        Check.due("head(1)", d.head(1), 0);
        Check.due("head(-1)", d.head(-1), 0);
    }

    static void promise10_ofMinus1_is0() {
        Check.due("head(-1)", Desk.withRows(3).head(-1), 0);
    }

    static void promise10_ofAllRows_isThere() {
        Desk d = Desk.withRows(3);
        Check.due("head(3)", d.head(3),
                Exact.join(Exact.join(d.digest(0), d.digest(1)), d.digest(2)));
    }

    static void promise10_ofOneRowMoreThanThereAre_is0() {
        Check.due("head(4) of 3", Desk.withRows(3).head(4), 0);
        Check.due("head(5) of 4", Desk.withRows(4).head(5), 0);
        Check.due("head(2) of 1", Desk.withRows(1).head(2), 0);
    }

    static void promise10_farOut_is0() {
        Desk d = Desk.withRows(3);
        for (int n : Desk.FAR_OUT) {
            Check.due("head(" + n + ")", d.head(n), 0);
        }
    }

    static void promise10_ofAFullLog_isThere() {
        Check.due("head(120)", Desk.withRows(120).head(120), -6705471701126535706L);
    }

    static void promise10_of121_is0() {
        Check.due("head(121)", Desk.withRows(120).head(121), 0);
        Check.due("head(128)", Desk.withRows(120).head(128), 0);
    }

    static void promise10_of120With119Rows_is0() {
        Check.due("head(120)", Desk.withRows(119).head(120), 0);
    }

    static void promise10_ofEachLength_isMadeByTwoParts() {
        Desk d = Desk.withRows(120);
        List<Long> digests = new ArrayList<>();
        for (int n = 0; n <= 120; n++) {
            Check.due("head(" + n + ")", d.head(n), Model.headOf(digests));
            digests.add(d.digest(n));
        }
    }

    static void promise10_ofFewerRows_staysWhenTheLogGrows() {
        Desk d = Desk.withRows(5);
        long five = d.head(5);
        long three = d.head(3);
        d.yank("a", 0, 0, true);
        d.move("a>core", 0);
        Check.due("head(5)", d.head(5), five);
        Check.due("head(3)", d.head(3), three);
    }

    static void promise10_behindARefusedRow_isTheSame() {
        Desk d = Desk.withRows(5);
        long five = d.head(5);
        d.publish("a", 0, 0, 0);
        d.publish("b", 0, 0, 0);
        Check.due("head(5)", d.head(5), five);
        Check.due("head(6)", d.head(6), 0);
    }

    static void promise10_behindASpoiltMirror_isTheSame() {
        Desk d = Desk.withRows(5);
        long five = d.head(5);
        d.follow(0, 5);
        d.spoil(0, 2, 0);
        Check.due("head(5)", d.head(5), five);
    }
}
