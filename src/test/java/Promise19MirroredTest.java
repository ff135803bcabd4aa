/** Promise 19: mirrored. */
public final class Promise19MirroredTest {
    public static void main(String[] args) {
        Check.run(Promise19MirroredTest.class);
    }

    static void promise19_aMirrorWithoutRows_has0() {
        Desk d = Desk.withRows(3);
        for (int mirror = 0; mirror < 4; mirror++) {
            Check.due("mirrored(" + mirror + ")", d.mirrored(mirror), 0);
        }
    }

    static void promise19_aMirrorOfAnEmptyLog_has0() {
        Desk d = new Desk();
        d.follow(0, 5);
        Check.due("mirrored(0)", d.mirrored(0), 0);
    }

    static void promise19_oneRow_hasItsDigest() {
        Desk d = Desk.withRows(3);
        d.follow(3, 1);
        Check.due("mirrored(3)", d.mirrored(3), d.digest(0));
    }

    static void promise19_eachLength_hasTheLogsHead() {
        Desk d = Desk.withRows(120);
        for (int n = 1; n <= 80; n++) {
            d.follow(0, 1);
            Check.due("mirrored(0) of " + n, d.mirrored(0), d.head(n));
        }
    }

    static void promise19_120Rows_haveTheLogsHead() {
        Desk d = Desk.withRows(120);
        d.follow(1, 120);
        Check.due("mirrored(1)", d.mirrored(1), -6705471701126535706L);
    }

    static void promise19_mirrorMinus1_has0() {
        Desk d = Desk.withRows(3);
        Check.due("mirrored(-1)", d.mirrored(-1), 0);
    }

    static void promise19_mirror4_has0() {
        Desk d = Desk.withRows(3);
        d.follow(0, 3);
        d.follow(3, 3);
        Check.due("mirrored(4)", d.mirrored(4), 0);
    }

    static void promise19_mirrorsFarOut_have0() {
        Desk d = Desk.withRows(3);
        for (int mirror = 0; mirror < 4; mirror++) {
            d.follow(mirror, 3);
        }
        for (int mirror : Desk.FAR_OUT) {
            Check.due("mirrored(" + mirror + ")", d.mirrored(mirror), 0);
        }
    }

    static void promise19_aSpoiltRow_isInIt() {
        Desk d = Desk.withRows(2);
        d.follow(0, 2);
        d.spoil(0, 1, -77);
        Check.due("mirrored(0)", d.mirrored(0),
                Exact.join(d.digest(0), Exact.mixAll(0, 0, 'a', 256, 1, -77)));
    }

    static void promise19_aRowOfTheLogAlone_isNotInIt() {
        Desk d = Desk.withRows(3);
        d.follow(0, 2);
        Check.due("mirrored(0)", d.mirrored(0), d.head(2));
        d.publish("a", 0, 900, 0);
        Check.due("mirrored(0)", d.mirrored(0), d.head(2));
    }
}
