/** Promise 1: an empty log; mirrors without rows. */
public final class Promise01NewObjectTest {
    public static void main(String[] args) {
        Check.run(Promise01NewObjectTest.class);
    }

    static void promise01_theLog_isEmpty() {
        Desk d = new Desk();
        Check.due("rows", d.rows(), 0);
        for (int what = 0; what < 4; what++) {
            Check.due("row(0, " + what + ")", d.row(0, what), -1);
        }
        Check.due("digest(0)", d.digest(0), 0);
        Check.due("head(0)", d.head(0), 0);
        Check.due("head(1)", d.head(1), 0);
    }

    static void promise01_theFirstRow_hasTheNumber0() {
        Check.due("publish", new Desk().publish("core", 0, 0, 0), 0);
    }

    static void promise01_mirrors_haveNoRows() {
        Desk d = new Desk();
        for (int mirror = 0; mirror < 4; mirror++) {
            Check.due("mirrored(" + mirror + ")", d.mirrored(mirror), 0);
            Check.due("apart(" + mirror + ")", d.apart(mirror), -1);
            Check.due("spoil(" + mirror + ", 0, 1)", d.spoil(mirror, 0, 1), false);
            Check.due("follow(" + mirror + ", 1)", d.follow(mirror, 1), 0);
        }
        d.publish("core", 0, 0, 0);
        for (int mirror = 0; mirror < 4; mirror++) {
            Check.due("follow(" + mirror + ", 9)", d.follow(mirror, 9), 1);
        }
    }

    static void promise01_names_areNotKnown() {
        Desk d = new Desk();
        for (int mirror = -1; mirror < 4; mirror++) {
            Check.due("founder(" + mirror + ")", d.founder("core", mirror), -1);
            Check.due("has(" + mirror + ", 0)", d.has("core", mirror, 0), false);
            Check.due("version(" + mirror + ", 0)", d.version("core", mirror, 0), 0);
            Check.due("sum(" + mirror + ", 0)", d.sum("core", mirror, 0), 0);
        }
    }

    static void promise01_text_isEmpty() {
        Desk d = new Desk();
        Check.due("publish", d.publish("", 0, 0, 0), Desk.ARGUMENT);
        Desk e = new Desk();
        for (int i = 0; i < 24; i++) {
            Check.due("type number " + i, e.type('a'), true);
        }
    }

    static void promise01_hand_isEmpty() {
        Check.due("isInside(0, 1, 5, 5)", new Desk().isInside(0, 1, 5, 5), true);
        Check.due("isGrowth(1, 1, 5, 5)", new Desk().isGrowth(1, 1, 5, 5), true);
        Desk d = new Desk();
        for (int i = 0; i < 16; i++) {
            Check.due("take number " + i, d.take(i), true);
        }
    }

    static void promise01_noProof_wasMade() {
        Desk d = new Desk();
        for (int k = -1; k < 17; k++) {
            Check.due("proof(" + k + ")", d.proof(k), 0);
        }
    }

    static void promise01_twoObjects_haveNothingInCommon() {
        Desk d = new Desk();
        Desk e = new Desk();
        d.publish("core", 0, 0, 0);
        d.publish("core", 0, 1, 0);
        d.inside(0, 2);
        d.take(1);
        d.follow(0, 2);
        d.type("x");
        Check.due("rows", e.rows(), 0);
        Check.due("proof(0)", e.proof(0), 0);
        Check.due("HAND", e.isInside(0, 1, 5, 5), true);
        Check.due("mirrored(0)", e.mirrored(0), 0);
        Check.due("publish", e.publish("core", 7, 0, 0), 0);
        Check.due("rows of the first", d.rows(), 2);
    }
}
