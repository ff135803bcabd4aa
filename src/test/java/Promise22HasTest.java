/** Promise 22: has. */
public final class Promise22HasTest {
    private static final int LOG = Desk.LOG;

    public static void main(String[] args) {
        Check.run(Promise22HasTest.class);
    }

    /** core: FOUNDER 0, the right has 7. Two rows, which the mirrors 0 and 3 have. */
    private static Desk withRight() {
        Desk d = Desk.withCore();
        d.grant("core", 0, 7, true);
        d.follow(0, 2);
        d.follow(3, 2);
        return d;
    }

    static void promise22_person0_isAsked() {
        Check.due("has 0", withRight().has("core", LOG, 0), true);
    }

    static void promise22_person7_isAsked() {
        Check.due("has 7", withRight().has("core", LOG, 7), true);
    }

    static void promise22_personsWithoutARight_haveNone() {
        Desk d = withRight();
        for (int person = 1; person <= 6; person++) {
            Check.due("has " + person, d.has("core", LOG, person), false);
        }
    }

    static void promise22_personMinus1_isNone() {
        Desk d = withRight();
        Check.due("has -1", d.has("core", LOG, -1), false);
        Check.due("has -1 of a mirror", d.has("core", 0, -1), false);
    }

    static void promise22_personMinus1OfANameThatIsNotKnown_isNone() {
        Desk d = withRight();
        Check.due("has -1", d.has("zebra", LOG, -1), false);
        Check.due("has -1 of a mirror without rows", d.has("core", 1, -1), false);
        Check.due("has -1 of no mirror", d.has("core", 4, -1), false);
        Check.due("has -1 in an empty log", new Desk().has("core", LOG, -1), false);
    }

    static void promise22_person8_isNone() {
        Check.due("has 8", withRight().has("core", LOG, 8), false);
    }

    static void promise22_personsFarOut_areNone() {
        Desk d = withRight();
        for (int person : Desk.FAR_OUT) {
            Check.due("has " + person, d.has("core", LOG, person), false);
        }
    }

    static void promise22_anEmptyLog_knowsNone() {
        Check.due("has", new Desk().has("core", LOG, 0), false);
    }

    static void promise22_anEmptyText_isNoName() {
        Check.due("has", withRight().has("", LOG, 0), false);
    }

    static void promise22_noName_isNone() {
        Desk d = withRight();
        for (String text : new String[] {"-", "core-", "-core", "Core", "core ", "core>zebra"}) {
            Check.due("has of '" + text + "'", d.has(text, LOG, 0), false);
        }
    }

    static void promise22_aNameThatIsNotKnown_hasNone() {
        Desk d = withRight();
        Check.due("has of zebra", d.has("zebra", LOG, 0), false);
        Check.due("has of a NEAR one", d.has("c-ore", LOG, 0), false);
    }

    static void promise22_aGoneName_hasNone() {
        Desk d = withRight();
        d.move("core>kernel", 0);
        Check.due("has 0", d.has("core", LOG, 0), false);
        Check.due("has 7", d.has("core", LOG, 7), false);
        Check.due("has 7 of the other one", d.has("kernel", LOG, 7), true);
    }

    static void promise22_mirrors0And3_areAsked() {
        Desk d = withRight();
        d.grant("core", 0, 7, false);
        Check.due("has 7 of the log", d.has("core", LOG, 7), false);
        Check.due("has 7 of 0", d.has("core", 0, 7), true);
        Check.due("has 7 of 3", d.has("core", 3, 7), true);
        d.follow(0, 1);
        Check.due("has 7 of 0", d.has("core", 0, 7), false);
        Check.due("has 0 of 0", d.has("core", 0, 0), true);
    }

    static void promise22_aMirrorWithoutRows_hasNone() {
        Check.due("has of 1", withRight().has("core", 1, 0), false);
    }

    static void promise22_aMirrorBeforeTheGrant_hasNone() {
        Desk d = withRight();
        d.follow(1, 1);
        Check.due("has 7 of 1", d.has("core", 1, 7), false);
        Check.due("has 0 of 1", d.has("core", 1, 0), true);
    }

    static void promise22_mirror4_isNone() {
        Check.due("has(4, 0)", withRight().has("core", 4, 0), false);
    }

    static void promise22_mirrorMinus2_isNone() {
        Check.due("has(-2, 0)", withRight().has("core", -2, 0), false);
    }

    static void promise22_mirrorsFarOut_areNone() {
        Desk d = withRight();
        for (int mirror : Desk.FAR_OUT) {
            Check.due("has(" + mirror + ", 0)", d.has("core", mirror, 0), false);
        }
    }
}
