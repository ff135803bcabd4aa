/** Promise 24: sum. */
public final class Promise24SumTest {
    private static final int LOG = Desk.LOG;

    public static void main(String[] args) {
        Check.run(Promise24SumTest.class);
    }

    /** core: the VERSIONS 0, 5 (yanked) and 999. Four rows, which the mirrors 0 and 3 have. */
    private static Desk withVersions() {
        Desk d = new Desk();
        d.publish("core", 1, 0, 10);
        d.publish("core", 1, 5, -15);
        d.publish("core", 1, 999, 19);
        d.yank("core", 1, 5, true);
        d.follow(0, 4);
        d.follow(3, 4);
        return d;
    }

    static void promise24_aVersionThatIsNotThere_has0() {
        Desk d = withVersions();
        for (int version : new int[] {1, 4, 6, 998}) {
            Check.due("sum " + version, d.sum("core", LOG, version), 0);
        }
    }

    static void promise24_version0_hasItsSum() {
        Check.due("sum 0", withVersions().sum("core", LOG, 0), 10);
    }

    static void promise24_version999_hasItsSum() {
        Check.due("sum 999", withVersions().sum("core", LOG, 999), 19);
    }

    static void promise24_aYankedVersion_hasItsSum() {
        Check.due("sum 5", withVersions().sum("core", LOG, 5), -15);
    }

    static void promise24_theLeastAndTheGreatestSum_areAnswered() {
        Desk d = new Desk();
        d.publish("core", 0, 0, Desk.LEAST);
        d.publish("core", 0, 1, Desk.GREATEST);
        d.publish("core", 0, 2, -1);
        d.publish("core", 0, 3, 0);
        Check.due("sum 0", d.sum("core", LOG, 0), Desk.LEAST);
        Check.due("sum 1", d.sum("core", LOG, 1), Desk.GREATEST);
        Check.due("sum 2", d.sum("core", LOG, 2), -1);
        Check.due("sum 3", d.sum("core", LOG, 3), 0);
    }

    static void promise24_aRefusedPublish_changesNoSum() {
        Desk d = withVersions();
        d.publish("core", 1, 5, 77);
        d.publish("core", 2, 6, 77);
        Check.due("sum 5", d.sum("core", LOG, 5), -15);
        Check.due("sum 6", d.sum("core", LOG, 6), 0);
    }

    static void promise24_versionMinus1_has0() {
        Desk d = withVersions();
        d.move("core>kernel", 1);
        Check.due("sum -1", d.sum("kernel", LOG, -1), 0);
        Check.due("sum -1 of a mirror", d.sum("core", 0, -1), 0);
        Check.due("sum -1, not KNOWN", d.sum("zebra", LOG, -1), 0);
        Check.due("sum -1 in an empty log", new Desk().sum("core", LOG, -1), 0);
    }

    static void promise24_version1000_has0() {
        Check.due("sum 1000", withVersions().sum("core", LOG, 1000), 0);
    }

    static void promise24_versionsFarOut_have0() {
        Desk d = withVersions();
        for (int version : Desk.FAR_OUT) {
            Check.due("sum " + version, d.sum("core", LOG, version), 0);
        }
    }

    static void promise24_anEmptyLog_has0() {
        Check.due("sum", new Desk().sum("core", LOG, 0), 0);
    }

    static void promise24_anEmptyText_isNoName() {
        Check.due("sum", withVersions().sum("", LOG, 0), 0);
    }

    static void promise24_noName_has0() {
        Desk d = withVersions();
        for (String text : new String[] {"-", "core-", "-core", "Core", "core ", "core>zebra"}) {
            Check.due("sum of '" + text + "'", d.sum(text, LOG, 0), 0);
        }
    }

    static void promise24_aNameThatIsNotKnown_has0() {
        Desk d = withVersions();
        Check.due("sum of zebra", d.sum("zebra", LOG, 0), 0);
        Check.due("sum of a NEAR one", d.sum("c-ore", LOG, 0), 0);
    }

    static void promise24_aGoneName_has0() {
        Desk d = withVersions();
        d.move("core>kernel", 1);
        Check.due("sum 0", d.sum("core", LOG, 0), 0);
        Check.due("sum 0 of the other one", d.sum("kernel", LOG, 0), 10);
        Check.due("sum 5 of the other one", d.sum("kernel", LOG, 5), -15);
    }

    static void promise24_theSameVersionOfAnotherName_hasItsOwnSum() {
        Desk d = withVersions();
        d.publish("zebra", 2, 5, 77);
        Check.due("sum 5", d.sum("core", LOG, 5), -15);
        Check.due("sum 5 of the other one", d.sum("zebra", LOG, 5), 77);
    }

    static void promise24_mirrors0And3_areAsked() {
        Desk d = withVersions();
        d.spoil(0, 1, 77);
        d.spoil(3, 1, Desk.LEAST);
        Check.due("sum 5 of the log", d.sum("core", LOG, 5), -15);
        Check.due("sum 5 of 0", d.sum("core", 0, 5), 77);
        Check.due("sum 5 of 3", d.sum("core", 3, 5), Desk.LEAST);
        Check.due("sum 0 of 3", d.sum("core", 3, 0), 10);
    }

    static void promise24_aMirrorWithoutRows_has0() {
        Check.due("sum of 1", withVersions().sum("core", 1, 0), 0);
    }

    static void promise24_aMirrorBeforeThePublish_has0() {
        Desk d = withVersions();
        d.follow(1, 1);
        Check.due("sum 5 of 1", d.sum("core", 1, 5), 0);
        Check.due("sum 0 of 1", d.sum("core", 1, 0), 10);
    }

    static void promise24_mirror4_has0() {
        Check.due("sum(4, 0)", withVersions().sum("core", 4, 0), 0);
    }

    static void promise24_mirrorMinus2_has0() {
        Check.due("sum(-2, 0)", withVersions().sum("core", -2, 0), 0);
    }

    static void promise24_mirrorsFarOut_have0() {
        Desk d = withVersions();
        for (int mirror : Desk.FAR_OUT) {
            Check.due("sum(" + mirror + ", 0)", d.sum("core", mirror, 0), 0);
        }
    }
}
