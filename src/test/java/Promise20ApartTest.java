/** Promise 20: apart. */
public final class Promise20ApartTest {
    public static void main(String[] args) {
        Check.run(Promise20ApartTest.class);
    }

    private static Desk withMirror(int rows, int copied) {
        Desk d = Desk.withRows(rows);
        d.follow(0, copied);
        return d;
    }

    static void promise20_aMirrorWithoutRows_isNotApart() {
        Check.due("apart(0)", Desk.withRows(3).apart(0), -1);
        Check.due("apart(0) of an empty log", new Desk().apart(0), -1);
    }

    static void promise20_aMirrorWithTheSameRows_isNotApart() {
        Check.due("apart(0)", withMirror(5, 5).apart(0), -1);
        Check.due("apart(0) of 1", withMirror(1, 1).apart(0), -1);
    }

    static void promise20_aMirrorThatIsBehind_isNotApart() {
        Check.due("apart(0)", withMirror(5, 4).apart(0), -1);
        Check.due("apart(0) of 1", withMirror(5, 1).apart(0), -1);
        Desk d = withMirror(5, 5);
        d.publish("a", 0, 900, 0);
        Check.due("apart(0) behind a row more", d.apart(0), -1);
    }

    static void promise20_theFirstRowSpoilt_is1() {
        Desk d = withMirror(5, 5);
        d.spoil(0, 0, 77);
        Check.due("apart(0)", d.apart(0), 1);
    }

    static void promise20_theOnlyRowSpoilt_is1() {
        Desk d = withMirror(1, 1);
        d.spoil(0, 0, 77);
        Check.due("apart(0)", d.apart(0), 1);
    }

    static void promise20_theLastRowSpoilt_isTheLength() {
        Desk d = withMirror(5, 5);
        d.spoil(0, 4, 77);
        Check.due("apart(0)", d.apart(0), 5);
    }

    static void promise20_theMirrorsLastRowSpoilt_isItsLength() {
        Desk d = withMirror(5, 3);
        d.spoil(0, 2, 77);
        Check.due("apart(0)", d.apart(0), 3);
    }

    static void promise20_row119Spoilt_is120() {
        Desk d = withMirror(120, 120);
        Check.due("apart(0) before", d.apart(0), -1);
        d.spoil(0, 119, 77);
        Check.due("apart(0)", d.apart(0), 120);
    }

    static void promise20_eachRowSpoilt_isTheLengthWithIt() {
        Desk d = withMirror(120, 120);
        for (int i = 119; i >= 0; i--) {
            d.spoil(0, i, -1);
            Check.due("apart(0)", d.apart(0), i + 1);
        }
    }

    static void promise20_twoRowsSpoilt_areTheLesserLength() {
        Desk d = withMirror(5, 5);
        d.spoil(0, 1, 77);
        d.spoil(0, 3, 77);
        Check.due("apart(0)", d.apart(0), 2);
    }

    static void promise20_aRowMended_isNotApart() {
        Desk d = withMirror(5, 5);
        d.spoil(0, 1, 77);
        d.spoil(0, 3, 77);
        d.spoil(0, 1, 101);
        Check.due("apart(0) by the other one", d.apart(0), 4);
        d.spoil(0, 3, 103);
        Check.due("apart(0)", d.apart(0), -1);
    }

    static void promise20_aRowSpoiltWithItsOwnSum_isNotApart() {
        Desk d = withMirror(5, 5);
        d.spoil(0, 2, 102);
        Check.due("apart(0)", d.apart(0), -1);
    }

    static void promise20_sumsThatDifferInOneBit_areApart() {
        for (int bit = 0; bit < 32; bit++) {
            Desk d = withMirror(3, 3);
            d.spoil(0, 2, 102 ^ 1 << bit);
            Check.due("apart(0) by the bit " + bit, d.apart(0), 3);
        }
    }

    static void promise20_rowsThatComeLater_leaveItApart() {
        Desk d = withMirror(5, 3);
        d.spoil(0, 1, 77);
        d.follow(0, 2);
        Check.due("apart(0) behind rows more", d.apart(0), 2);
        d.publish("a", 0, 900, 0);
        d.follow(0, 1);
        Check.due("apart(0) behind a new one", d.apart(0), 2);
    }

    static void promise20_eachMirror_isApartByItself() {
        Desk d = Desk.withRows(5);
        for (int mirror = 0; mirror < 4; mirror++) {
            d.follow(mirror, 5);
        }
        d.spoil(0, 4, 77);
        d.spoil(3, 1, 77);
        Check.due("apart(0)", d.apart(0), 5);
        Check.due("apart(1)", d.apart(1), -1);
        Check.due("apart(2)", d.apart(2), -1);
        Check.due("apart(3)", d.apart(3), 2);
    }

    static void promise20_mirrorMinus1_isNone() {
        Desk d = withMirror(5, 5);
        d.spoil(0, 1, 77);
        Check.due("apart(-1)", d.apart(-1), -1);
    }

    static void promise20_mirror4_isNone() {
        Desk d = Desk.withRows(5);
        d.follow(3, 5);
        d.follow(0, 5);
        d.spoil(0, 1, 77);
        d.spoil(3, 1, 77);
        Check.due("apart(4)", d.apart(4), -1);
    }

    static void promise20_mirrorsFarOut_areNone() {
        Desk d = withMirror(5, 5);
        d.spoil(0, 1, 77);
        for (int mirror : Desk.FAR_OUT) {
            Check.due("apart(" + mirror + ")", d.apart(mirror), -1);
        }
    }
}
