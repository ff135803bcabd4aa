/** Promise 23: version. */
public final class Promise23VersionTest {
    private static final int LOG = Desk.LOG;

    public static void main(String[] args) {
        Check.run(Promise23VersionTest.class);
    }

    /** core: the VERSIONS 0, 5 (yanked) and 999. Four rows, which the mirrors 0 and 3 have. */
    private static Desk withVersions() {
        Desk d = new Desk();
        d.publish("core", 0, 0, 10);
        d.publish("core", 0, 5, 15);
        d.publish("core", 0, 999, 19);
        d.yank("core", 0, 5, true);
        d.follow(0, 4);
        d.follow(3, 4);
        return d;
    }

    static void promise23_aVersionThatIsNotThere_is0() {
        Desk d = withVersions();
        for (int version : new int[] {1, 4, 6, 998}) {
            Check.due("version " + version, d.version("core", LOG, version), 0);
        }
    }

    static void promise23_version0_is1() {
        Check.due("version 0", withVersions().version("core", LOG, 0), 1);
    }

    static void promise23_version999_is1() {
        Check.due("version 999", withVersions().version("core", LOG, 999), 1);
    }

    static void promise23_aYankedVersion_is2() {
        Check.due("version 5", withVersions().version("core", LOG, 5), 2);
    }

    static void promise23_aVersionYankedBack_is1() {
        Desk d = withVersions();
        d.yank("core", 0, 5, false);
        Check.due("version 5", d.version("core", LOG, 5), 1);
    }

    static void promise23_aVersionYankedAgain_is2() {
        Desk d = withVersions();
        d.yank("core", 0, 5, false);
        d.yank("core", 0, 5, true);
        Check.due("version 5", d.version("core", LOG, 5), 2);
    }

    static void promise23_versionMinus1_is0() {
        Desk d = withVersions();
        d.move("core>kernel", 0);
        Check.due("version -1", d.version("kernel", LOG, -1), 0);
        Check.due("version -1 of a mirror", d.version("core", 0, -1), 0);
        Check.due("version -1, not KNOWN", d.version("zebra", LOG, -1), 0);
        Check.due("version -1 in an empty log", new Desk().version("core", LOG, -1), 0);
    }

    static void promise23_version1000_is0() {
        Check.due("version 1000", withVersions().version("core", LOG, 1000), 0);
    }

    static void promise23_versionsFarOut_are0() {
        Desk d = withVersions();
        for (int version : Desk.FAR_OUT) {
            Check.due("version " + version, d.version("core", LOG, version), 0);
        }
    }

    static void promise23_anEmptyLog_hasNone() {
        Check.due("version", new Desk().version("core", LOG, 0), 0);
    }

    static void promise23_anEmptyText_isNoName() {
        Check.due("version", withVersions().version("", LOG, 0), 0);
    }

    static void promise23_noName_is0() {
        Desk d = withVersions();
        for (String text : new String[] {"-", "core-", "-core", "Core", "core ", "core>zebra"}) {
            Check.due("version of '" + text + "'", d.version(text, LOG, 0), 0);
        }
    }

    static void promise23_aNameThatIsNotKnown_has0() {
        Desk d = withVersions();
        Check.due("version of zebra", d.version("zebra", LOG, 0), 0);
        Check.due("version of a NEAR one", d.version("c-ore", LOG, 0), 0);
    }

    static void promise23_aGoneName_has0() {
        Desk d = withVersions();
        d.move("core>kernel", 0);
        Check.due("version 0", d.version("core", LOG, 0), 0);
        Check.due("version 5", d.version("core", LOG, 5), 0);
        Check.due("version 0 of the other one", d.version("kernel", LOG, 0), 1);
        Check.due("version 5 of the other one", d.version("kernel", LOG, 5), 2);
    }

    static void promise23_mirrors0And3_areAsked() {
        Desk d = withVersions();
        d.yank("core", 0, 5, false);
        d.yank("core", 0, 0, true);
        Check.due("version 5 of the log", d.version("core", LOG, 5), 1);
        Check.due("version 5 of 0", d.version("core", 0, 5), 2);
        Check.due("version 5 of 3", d.version("core", 3, 5), 2);
        Check.due("version 0 of 3", d.version("core", 3, 0), 1);
        d.follow(3, 2);
        Check.due("version 5 of 3", d.version("core", 3, 5), 1);
        Check.due("version 0 of 3", d.version("core", 3, 0), 2);
    }

    static void promise23_aMirrorWithoutRows_has0() {
        Check.due("version of 1", withVersions().version("core", 1, 0), 0);
    }

    static void promise23_aMirrorBeforeTheYank_has1() {
        Desk d = withVersions();
        d.follow(1, 3);
        Check.due("version 5 of 1", d.version("core", 1, 5), 1);
    }

    static void promise23_aMirrorBeforeThePublish_has0() {
        Desk d = withVersions();
        d.follow(1, 1);
        Check.due("version 5 of 1", d.version("core", 1, 5), 0);
        Check.due("version 0 of 1", d.version("core", 1, 0), 1);
    }

    static void promise23_mirror4_is0() {
        Check.due("version(4, 0)", withVersions().version("core", 4, 0), 0);
    }

    static void promise23_mirrorMinus2_is0() {
        Check.due("version(-2, 0)", withVersions().version("core", -2, 0), 0);
    }

    static void promise23_mirrorsFarOut_are0() {
        Desk d = withVersions();
        for (int mirror : Desk.FAR_OUT) {
            Check.due("version(" + mirror + ", 0)", d.version("core", mirror, 0), 0);
        }
    }
}
