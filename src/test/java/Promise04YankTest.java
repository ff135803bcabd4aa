/** Promise 4: yank. */
public final class Promise04YankTest {
    private static final int A = Desk.ARGUMENT;
    private static final int S = Desk.STATE;
    private static final int LOG = Desk.LOG;

    public static void main(String[] args) {
        Check.run(Promise04YankTest.class);
    }

    /** core: the VERSIONS 0, 1 and 999, written by 0. Three rows. */
    private static Desk withThreeVersions() {
        Desk d = Desk.withCore();
        d.publish("core", 0, 0, 10);
        d.publish("core", 0, 999, 99);
        return d;
    }

    static void promise04_theAnswer_isTheRowsNumber() {
        Desk d = withThreeVersions();
        Check.due("yank", d.yank("core", 0, 1, true), 3);
        Check.due("yank back", d.yank("core", 0, 1, false), 4);
        Check.due("rows", d.rows(), 5);
    }

    static void promise04_aVersionThatIsThere_isYanked() {
        Desk d = withThreeVersions();
        d.yank("core", 0, 1, true);
        Check.due("version", d.version("core", LOG, 1), 2);
        Check.due("the one below", d.version("core", LOG, 0), 1);
        Check.due("the one above", d.version("core", LOG, 999), 1);
    }

    static void promise04_version0_isYanked() {
        Desk d = withThreeVersions();
        Check.due("yank", d.yank("core", 0, 0, true), 3);
        Check.due("version", d.version("core", LOG, 0), 2);
    }

    static void promise04_version999_isYanked() {
        Desk d = withThreeVersions();
        Check.due("yank", d.yank("core", 0, 999, true), 3);
        Check.due("version", d.version("core", LOG, 999), 2);
    }

    static void promise04_versionMinus1_isNone() {
        Desk d = withThreeVersions();
        d.refused(d.seen(), "yank", d.yank("core", 0, -1, true), A);
        d.refused(d.seen(), "yank back", d.yank("core", 0, -1, false), A);
    }

    static void promise04_version1000_isNone() {
        Desk d = withThreeVersions();
        d.refused(d.seen(), "yank", d.yank("core", 0, 1000, true), A);
        d.refused(d.seen(), "yank back", d.yank("core", 0, 1000, false), A);
    }

    static void promise04_versionsFarOut_areNone() {
        Desk d = withThreeVersions();
        for (int version : Desk.FAR_OUT) {
            Check.due("yank of " + version, d.yank("core", 0, version, true), A);
        }
        Check.due("rows", d.rows(), 3);
    }

    static void promise04_persons0And7_areTaken() {
        Desk d = withThreeVersions();
        d.grant("core", 0, 7, true);
        Check.due("yank by 0", d.yank("core", 0, 1, true), 4);
        Check.due("yank by 7", d.yank("core", 7, 1, false), 5);
    }

    static void promise04_personMinus1_isNone() {
        Desk d = withThreeVersions();
        d.refused(d.seen(), "yank", d.yank("core", -1, 1, true), A);
    }

    static void promise04_person8_isNone() {
        Desk d = withThreeVersions();
        d.refused(d.seen(), "yank", d.yank("core", 8, 1, true), A);
    }

    static void promise04_personsFarOut_areNone() {
        Desk d = withThreeVersions();
        for (int person : Desk.FAR_OUT) {
            Check.due("yank by " + person, d.yank("core", person, 1, true), A);
        }
        Check.due("rows", d.rows(), 3);
    }

    static void promise04_anEmptyText_isNoName() {
        Desk d = withThreeVersions();
        d.refused(d.seen(), "yank", d.yank("", 0, 1, true), A);
    }

    static void promise04_aNameThatIsNotKnown_mayNotCome() {
        Desk d = new Desk();
        d.refused(d.seen(), "yank in an empty log", d.yank("core", 0, 1, true), S);
        d.refused(d.seen(), "yank back in an empty log", d.yank("core", 0, 1, false), S);
        Desk e = withThreeVersions();
        e.refused(e.seen(), "yank of zebra", e.yank("zebra", 0, 1, true), S);
    }

    static void promise04_aNearName_isNotTheSame() {
        Desk d = withThreeVersions();
        d.refused(d.seen(), "yank of c-ore", d.yank("c-ore", 0, 1, true), S);
        d.refused(d.seen(), "yank of cores", d.yank("cores", 0, 1, true), S);
    }

    static void promise04_aGoneName_mayNotCome() {
        Desk d = withThreeVersions();
        d.move("core>kernel", 0);
        d.refused(d.seen(), "yank", d.yank("core", 0, 1, true), S);
        Check.due("yank of the other one", d.yank("kernel", 0, 1, true), 4);
    }

    static void promise04_aVersionThatIsNotThere_mayNotCome() {
        Desk d = withThreeVersions();
        d.refused(d.seen(), "yank", d.yank("core", 0, 2, true), S);
        d.refused(d.seen(), "yank back", d.yank("core", 0, 2, false), S);
        d.refused(d.seen(), "yank of 998", d.yank("core", 0, 998, true), S);
    }

    static void promise04_aVersionOfAnotherName_isNotThere() {
        Desk d = withThreeVersions();
        d.publish("zebra", 0, 5, 0);
        d.refused(d.seen(), "yank", d.yank("core", 0, 5, true), S);
    }

    static void promise04_aYankThatIsSoAlready_mayNotCome() {
        Desk d = withThreeVersions();
        d.yank("core", 0, 1, true);
        d.refused(d.seen(), "yank", d.yank("core", 0, 1, true), S);
        Check.due("version", d.version("core", LOG, 1), 2);
    }

    static void promise04_aYankBackOfWhatNeverWasYanked_mayNotCome() {
        Desk d = withThreeVersions();
        d.refused(d.seen(), "yank back", d.yank("core", 0, 1, false), S);
    }

    static void promise04_aYankBackThatIsSoAlready_mayNotCome() {
        Desk d = withThreeVersions();
        d.yank("core", 0, 1, true);
        d.yank("core", 0, 1, false);
        d.refused(d.seen(), "yank back", d.yank("core", 0, 1, false), S);
        Check.due("version", d.version("core", LOG, 1), 1);
    }

    static void promise04_aYankBehindAYankBack_mayCome() {
        Desk d = withThreeVersions();
        d.yank("core", 0, 1, true);
        d.yank("core", 0, 1, false);
        Check.due("yank", d.yank("core", 0, 1, true), 5);
        Check.due("version", d.version("core", LOG, 1), 2);
    }

    static void promise04_aYankOfAnotherVersion_isNotSoAlready() {
        Desk d = withThreeVersions();
        d.yank("core", 0, 1, true);
        Check.due("yank of 0", d.yank("core", 0, 0, true), 4);
        d.refused(d.seen(), "yank back of 999", d.yank("core", 0, 999, false), S);
    }

    static void promise04_withoutTheRight_itMayNotCome() {
        Desk d = withThreeVersions();
        for (int person = 1; person <= 7; person++) {
            Check.due("yank by " + person, d.yank("core", person, 1, true), S);
        }
        Check.due("rows", d.rows(), 3);
    }

    static void promise04_withARightGiven_itMayCome() {
        Desk d = withThreeVersions();
        d.grant("core", 0, 4, true);
        Check.due("yank", d.yank("core", 4, 1, true), 4);
    }

    static void promise04_withARightTaken_itMayNotCome() {
        Desk d = withThreeVersions();
        d.grant("core", 0, 4, true);
        d.grant("core", 0, 4, false);
        d.refused(d.seen(), "yank", d.yank("core", 4, 1, true), S);
    }

    static void promise04_asTheLastRow_itIsTaken() {
        Desk d = Desk.withRows(119);
        Check.due("yank", d.yank("a", 0, 118, true), 119);
        Check.due("version", d.version("a", LOG, 118), 2);
    }

    static void promise04_oneRowMore_isRefused() {
        Desk d = Desk.withRows(120);
        d.refused(d.seen(), "yank", d.yank("a", 0, 119, true), S);
        Check.due("version", d.version("a", LOG, 119), 1);
    }

    static void promise04_wrongArgumentsInAFullLog_areWrongArguments() {
        Desk d = Desk.withRows(120);
        Check.due("no NAME", d.yank("-", 0, 1, true), A);
        Check.due("no person", d.yank("a", 8, 1, true), A);
        Check.due("no VERSION", d.yank("a", 0, 1000, true), A);
    }

    static void promise04_wrongArgumentsOfARowThatMayNotCome_areWrongArguments() {
        Desk d = withThreeVersions();
        Check.due("no person, not KNOWN", d.yank("zebra", 8, 1, true), A);
        Check.due("no VERSION, no right", d.yank("core", 1, -1, true), A);
    }
}
