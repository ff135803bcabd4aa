/** Terms: a call that takes TEXT empties it, in any case. (Its 24 characters: promise 2.) */
public final class TermsTextTest {
    private static final int LOG = Desk.LOG;

    public static void main(String[] args) {
        Check.run(TermsTextTest.class);
    }

    private static void isEmptied(String call, Desk d, int got, int want) {
        Check.due(call, got, want);
        Check.due("TEXT is empty behind " + call, d.isTextEmpty(), true);
    }

    static void terms_publishThatIsDone_emptiesText() {
        Desk d = Desk.withGuardAndCore();
        isEmptied("publish", d, d.publish("core", 0, 2, 0), 2);
    }

    static void terms_publishWithoutAName_emptiesText() {
        Desk d = Desk.withGuardAndCore();
        isEmptied("publish of -", d, d.publish("-", 0, 2, 0), Desk.ARGUMENT);
    }

    static void terms_publishByNoPerson_emptiesText() {
        Desk d = Desk.withGuardAndCore();
        isEmptied("publish by 8", d, d.publish("core", 8, 2, 0), Desk.ARGUMENT);
        isEmptied("publish by -1", d, d.publish("core", -1, 2, 0), Desk.ARGUMENT);
    }

    static void terms_publishOfNoVersion_emptiesText() {
        Desk d = Desk.withGuardAndCore();
        isEmptied("publish of 1000", d, d.publish("core", 0, 1000, 0), Desk.ARGUMENT);
        isEmptied("publish of -1", d, d.publish("core", 0, -1, 0), Desk.ARGUMENT);
    }

    static void terms_publishThatMayNotCome_emptiesText() {
        Desk d = Desk.withGuardAndCore();
        isEmptied("publish again", d, d.publish("core", 0, 1, 0), Desk.STATE);
        isEmptied("publish of a NEAR one", d, d.publish("cores", 0, 1, 0), Desk.STATE);
    }

    static void terms_yankThatIsDone_emptiesText() {
        Desk d = Desk.withGuardAndCore();
        isEmptied("yank", d, d.yank("core", 0, 1, true), 2);
    }

    static void terms_yankWithoutAName_emptiesText() {
        Desk d = Desk.withGuardAndCore();
        isEmptied("yank of a-", d, d.yank("a-", 0, 1, true), Desk.ARGUMENT);
    }

    static void terms_yankByNoPerson_emptiesText() {
        Desk d = Desk.withGuardAndCore();
        isEmptied("yank by 8", d, d.yank("core", 8, 1, true), Desk.ARGUMENT);
        isEmptied("yank by -1", d, d.yank("core", -1, 1, true), Desk.ARGUMENT);
    }

    static void terms_yankOfNoVersion_emptiesText() {
        Desk d = Desk.withGuardAndCore();
        isEmptied("yank of 1000", d, d.yank("core", 0, 1000, true), Desk.ARGUMENT);
        isEmptied("yank of -1", d, d.yank("core", 0, -1, true), Desk.ARGUMENT);
    }

    static void terms_yankThatMayNotCome_emptiesText() {
        Desk d = Desk.withGuardAndCore();
        isEmptied("yank off", d, d.yank("core", 0, 1, false), Desk.STATE);
    }

    static void terms_grantThatIsDone_emptiesText() {
        Desk d = Desk.withGuardAndCore();
        isEmptied("grant", d, d.grant("core", 0, 1, true), 2);
    }

    static void terms_grantWithoutAName_emptiesText() {
        Desk d = Desk.withGuardAndCore();
        isEmptied("grant of A", d, d.grant("A", 0, 1, true), Desk.ARGUMENT);
    }

    static void terms_grantByNoPerson_emptiesText() {
        Desk d = Desk.withGuardAndCore();
        isEmptied("grant by 8", d, d.grant("core", 8, 1, true), Desk.ARGUMENT);
        isEmptied("grant by -1", d, d.grant("core", -1, 1, true), Desk.ARGUMENT);
    }

    static void terms_grantToNoPerson_emptiesText() {
        Desk d = Desk.withGuardAndCore();
        isEmptied("grant to 8", d, d.grant("core", 0, 8, true), Desk.ARGUMENT);
        isEmptied("grant to -1", d, d.grant("core", 0, -1, true), Desk.ARGUMENT);
    }

    static void terms_grantThatMayNotCome_emptiesText() {
        Desk d = Desk.withGuardAndCore();
        isEmptied("grant off", d, d.grant("core", 0, 1, false), Desk.STATE);
    }

    static void terms_moveThatIsDone_emptiesText() {
        Desk d = Desk.withGuardAndCore();
        isEmptied("move", d, d.move("core>kernel", 0), 2);
    }

    static void terms_moveWithoutAMark_emptiesText() {
        Desk d = Desk.withGuardAndCore();
        isEmptied("move of core", d, d.move("core", 0), Desk.ARGUMENT);
    }

    static void terms_moveWithoutANameInFront_emptiesText() {
        Desk d = Desk.withGuardAndCore();
        isEmptied("move of >kernel", d, d.move(">kernel", 0), Desk.ARGUMENT);
    }

    static void terms_moveWithoutANameBehind_emptiesText() {
        Desk d = Desk.withGuardAndCore();
        isEmptied("move of core>", d, d.move("core>", 0), Desk.ARGUMENT);
    }

    static void terms_moveByNoPerson_emptiesText() {
        Desk d = Desk.withGuardAndCore();
        isEmptied("move by 8", d, d.move("core>kernel", 8), Desk.ARGUMENT);
        isEmptied("move by -1", d, d.move("core>kernel", -1), Desk.ARGUMENT);
    }

    static void terms_moveThatMayNotCome_emptiesText() {
        Desk d = Desk.withGuardAndCore();
        isEmptied("move by 1", d, d.move("core>kernel", 1), Desk.STATE);
    }

    static void terms_aRowForAFullLog_emptiesText() {
        Desk d = Desk.withGuardAndCore();
        for (int i = 2; i < 120; i++) {
            d.publish("b", 0, i, 0);
        }
        isEmptied("publish", d, d.publish("core", 0, 2, 0), Desk.STATE);
        isEmptied("yank", d, d.yank("core", 0, 1, true), Desk.STATE);
        isEmptied("grant", d, d.grant("core", 0, 1, true), Desk.STATE);
        isEmptied("move", d, d.move("core>kernel", 0), Desk.STATE);
    }

    static void terms_founder_emptiesText() {
        Desk d = Desk.withGuardAndCore();
        isEmptied("founder", d, d.founder("core", LOG), 0);
        isEmptied("founder of a mirror without rows", d, d.founder("core", 0), -1);
        isEmptied("founder, not KNOWN", d, d.founder("kernel", LOG), -1);
        isEmptied("founder, no NAME", d, d.founder("core-", LOG), -1);
    }

    static void terms_founderOfNoMirror_emptiesText() {
        Desk d = Desk.withGuardAndCore();
        isEmptied("founder(4)", d, d.founder("core", 4), -1);
        isEmptied("founder(-2)", d, d.founder("core", -2), -1);
    }

    static void terms_has_emptiesText() {
        Desk d = Desk.withGuardAndCore();
        isEmptied("has", d, d.has("core", LOG, 0) ? 1 : 0, 1);
        isEmptied("has of a mirror without rows", d, d.has("core", 0, 0) ? 1 : 0, 0);
        isEmptied("has, not KNOWN", d, d.has("kernel", LOG, 0) ? 1 : 0, 0);
        isEmptied("has, no NAME", d, d.has("core-", LOG, 0) ? 1 : 0, 0);
    }

    static void terms_hasOfNoMirror_emptiesText() {
        Desk d = Desk.withGuardAndCore();
        isEmptied("has(4, 0)", d, d.has("core", 4, 0) ? 1 : 0, 0);
        isEmptied("has(-2, 0)", d, d.has("core", -2, 0) ? 1 : 0, 0);
    }

    static void terms_hasOfNoPerson_emptiesText() {
        Desk d = Desk.withGuardAndCore();
        isEmptied("has(-1, 8)", d, d.has("core", LOG, 8) ? 1 : 0, 0);
        isEmptied("has(-1, -1)", d, d.has("core", LOG, -1) ? 1 : 0, 0);
    }

    static void terms_version_emptiesText() {
        Desk d = Desk.withGuardAndCore();
        isEmptied("version", d, d.version("core", LOG, 1), 1);
        isEmptied("version of a mirror without rows", d, d.version("core", 0, 1), 0);
        isEmptied("version, not KNOWN", d, d.version("kernel", LOG, 1), 0);
        isEmptied("version, no NAME", d, d.version("core-", LOG, 1), 0);
    }

    static void terms_versionOfNoMirror_emptiesText() {
        Desk d = Desk.withGuardAndCore();
        isEmptied("version(4, 1)", d, d.version("core", 4, 1), 0);
        isEmptied("version(-2, 1)", d, d.version("core", -2, 1), 0);
    }

    static void terms_versionOfNoVersion_emptiesText() {
        Desk d = Desk.withGuardAndCore();
        isEmptied("version(-1, 1000)", d, d.version("core", LOG, 1000), 0);
        isEmptied("version(-1, -1)", d, d.version("core", LOG, -1), 0);
    }

    static void terms_sum_emptiesText() {
        Desk d = Desk.withGuardAndCore();
        isEmptied("sum", d, d.sum("core", LOG, 1), 11);
        isEmptied("sum of a mirror without rows", d, d.sum("core", 0, 1), 0);
        isEmptied("sum, not KNOWN", d, d.sum("kernel", LOG, 1), 0);
        isEmptied("sum, no NAME", d, d.sum("core-", LOG, 1), 0);
    }

    static void terms_sumOfNoMirror_emptiesText() {
        Desk d = Desk.withGuardAndCore();
        isEmptied("sum(4, 1)", d, d.sum("core", 4, 1), 0);
        isEmptied("sum(-2, 1)", d, d.sum("core", -2, 1), 0);
    }

    static void terms_sumOfNoVersion_emptiesText() {
        Desk d = Desk.withGuardAndCore();
        isEmptied("sum(-1, 1000)", d, d.sum("core", LOG, 1000), 0);
        isEmptied("sum(-1, -1)", d, d.sum("core", LOG, -1), 0);
    }

    static void terms_aTextOf24_isEmptiedByEachCall() {
        String full = "aaaaaaaaaaaaaaaaaaaaaaaa";
        Desk d = Desk.withGuardAndCore();
        isEmptied("publish", d, d.publish(full, 0, 0, 0), Desk.ARGUMENT);
        isEmptied("yank", d, d.yank(full, 0, 0, true), Desk.ARGUMENT);
        isEmptied("grant", d, d.grant(full, 0, 1, true), Desk.ARGUMENT);
        isEmptied("move", d, d.move(full, 0), Desk.ARGUMENT);
        isEmptied("founder", d, d.founder(full, LOG), -1);
        isEmptied("has", d, d.has(full, LOG, 0) ? 1 : 0, 0);
        isEmptied("version", d, d.version(full, LOG, 0), 0);
        isEmptied("sum", d, d.sum(full, LOG, 0), 0);
    }

    static void terms_anEmptyText_isNoName() {
        Desk d = Desk.withGuardAndCore();
        isEmptied("publish", d, d.publish("", 0, 0, 0), Desk.ARGUMENT);
        isEmptied("yank", d, d.yank("", 0, 1, true), Desk.ARGUMENT);
        isEmptied("grant", d, d.grant("", 0, 1, true), Desk.ARGUMENT);
        isEmptied("move", d, d.move("", 0), Desk.ARGUMENT);
        isEmptied("founder", d, d.founder("", LOG), -1);
        isEmptied("has", d, d.has("", LOG, 0) ? 1 : 0, 0);
        isEmptied("version", d, d.version("", LOG, 1), 0);
        isEmptied("sum", d, d.sum("", LOG, 1), 0);
    }

    static void terms_callsThatTakeNoText_leaveIt() {
        Desk d = Desk.withGuardAndCore();
        d.type("co");
        d.rows();
        d.row(0, 0);
        d.digest(0);
        d.head(1);
        d.inside(0, 1);
        d.growth(1, 1);
        d.proof(0);
        d.take(1);
        d.isInside(0, 1, 0, 0);
        d.isGrowth(1, 1, 0, 0);
        d.follow(1, 1);
        d.follow(9, 1);
        d.spoil(1, 0, 0);
        d.spoil(9, 0, 0);
        d.mirrored(1);
        d.apart(1);
        Check.due("founder of co and re", d.founder("re", LOG), 0);
    }

    static void terms_aRefusedCharacter_leavesText() {
        Desk d = Desk.withGuardAndCore();
        d.type("co\u007fre");
        Check.due("founder", d.founder("", LOG), 0);
    }
}
