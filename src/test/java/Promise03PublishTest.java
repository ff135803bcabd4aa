/** Promise 3: publish. (What is a NAME, and what is NEAR: TermsNamesTest.) */
public final class Promise03PublishTest {
    private static final int A = Desk.ARGUMENT;
    private static final int S = Desk.STATE;
    private static final int LOG = Desk.LOG;

    public static void main(String[] args) {
        Check.run(Promise03PublishTest.class);
    }

    static void promise03_theAnswer_isTheRowsNumber() {
        Desk d = new Desk();
        Check.due("a new NAME", d.publish("core", 0, 5, 0), 0);
        Check.due("a VERSION more", d.publish("core", 0, 4, 0), 1);
        Check.due("another NAME", d.publish("zebra", 1, 5, 0), 2);
        Check.due("a refused one", d.publish("zebra", 1, 5, 0), S);
        Check.due("the next one", d.publish("zebra", 1, 6, 0), 3);
    }

    static void promise03_person0_isTaken() {
        Check.due("publish", new Desk().publish("core", 0, 1, 1), 0);
    }

    static void promise03_person7_isTaken() {
        Check.due("publish", new Desk().publish("core", 7, 1, 1), 0);
    }

    static void promise03_personMinus1_isNone() {
        Desk d = Desk.withCore();
        d.refused(d.seen(), "publish of a new NAME", d.publish("zebra", -1, 1, 1), A);
        d.refused(d.seen(), "publish", d.publish("core", -1, 2, 1), A);
    }

    static void promise03_person8_isNone() {
        Desk d = Desk.withCore();
        d.refused(d.seen(), "publish of a new NAME", d.publish("zebra", 8, 1, 1), A);
        d.refused(d.seen(), "publish", d.publish("core", 8, 2, 1), A);
    }

    static void promise03_personsFarOut_areNone() {
        Desk d = new Desk();
        for (int person : Desk.FAR_OUT) {
            Check.due("publish by " + person, d.publish("core", person, 1, 1), A);
        }
        Check.due("rows", d.rows(), 0);
    }

    static void promise03_version0_isTaken() {
        Desk d = new Desk();
        Check.due("publish", d.publish("core", 0, 0, 1), 0);
        Check.due("version", d.version("core", LOG, 0), 1);
    }

    static void promise03_version999_isTaken() {
        Desk d = new Desk();
        Check.due("publish", d.publish("core", 0, 999, 1), 0);
        Check.due("version", d.version("core", LOG, 999), 1);
    }

    static void promise03_versionMinus1_isNone() {
        Desk d = Desk.withCore();
        d.refused(d.seen(), "publish of a new NAME", d.publish("zebra", 0, -1, 1), A);
        d.refused(d.seen(), "publish", d.publish("core", 0, -1, 1), A);
    }

    static void promise03_version1000_isNone() {
        Desk d = Desk.withCore();
        d.refused(d.seen(), "publish of a new NAME", d.publish("zebra", 0, 1000, 1), A);
        d.refused(d.seen(), "publish", d.publish("core", 0, 1000, 1), A);
    }

    static void promise03_versionsFarOut_areNone() {
        Desk d = new Desk();
        for (int version : Desk.FAR_OUT) {
            Check.due("publish of " + version, d.publish("core", 0, version, 1), A);
        }
        Check.due("rows", d.rows(), 0);
    }

    static void promise03_everySum_isTaken() {
        Desk d = new Desk();
        int[] sums = {Desk.LEAST, Desk.GREATEST, -1, 0, 1};
        for (int i = 0; i < sums.length; i++) {
            Check.due("publish", d.publish("core", 0, i, sums[i]), i);
            Check.due("row", d.row(i, 3), sums[i]);
            Check.due("sum", d.sum("core", LOG, i), sums[i]);
        }
    }

    static void promise03_anEmptyText_isNoName() {
        Desk d = Desk.withCore();
        d.refused(d.seen(), "publish", d.publish("", 0, 2, 1), A);
    }

    static void promise03_aMove_isNoName() {
        Desk d = Desk.withCore();
        d.refused(d.seen(), "publish", d.publish("core>zebra", 0, 2, 1), A);
    }

    static void promise03_aNewNameNearAKnownOne_mayNotCome() {
        Desk d = Desk.withCore();
        d.refused(d.seen(), "publish by another", d.publish("cores", 1, 0, 0), S);
        d.refused(d.seen(), "publish by its FOUNDER", d.publish("c-ore", 0, 0, 0), S);
    }

    static void promise03_aNewNameFarFromTheKnownOnes_mayCome() {
        Desk d = Desk.withCore();
        Check.due("publish", d.publish("coresx", 1, 0, 0), 1);
    }

    static void promise03_aKnownName_isNotStoppedByItself() {
        Desk d = Desk.withCore();
        Check.due("publish", d.publish("core", 0, 2, 0), 1);
    }

    static void promise03_aGoneName_mayNotCome() {
        Desk d = Desk.withCore();
        d.move("core>kernel", 0);
        d.refused(d.seen(), "publish", d.publish("core", 0, 2, 0), S);
        d.refused(d.seen(), "publish by another", d.publish("core", 1, 2, 0), S);
    }

    static void promise03_aNewNameNearAGoneOne_mayCome() {
        Desk d = Desk.withCore();
        d.move("core>kernel", 0);
        Check.due("publish", d.publish("cores", 1, 0, 0), 2);
    }

    static void promise03_aNewNameNearAMovedOne_mayNotCome() {
        Desk d = Desk.withCore();
        d.move("core>kernel", 0);
        d.refused(d.seen(), "publish", d.publish("kernels", 1, 0, 0), S);
    }

    static void promise03_aVersionThatIsThere_mayNotCome() {
        Desk d = Desk.withCore();
        d.refused(d.seen(), "publish, another SUM", d.publish("core", 0, 1, 12), S);
        d.refused(d.seen(), "publish, the same SUM", d.publish("core", 0, 1, 11), S);
        Check.due("sum", d.sum("core", LOG, 1), 11);
    }

    static void promise03_aVersionThatIsYanked_isThere() {
        Desk d = Desk.withCore();
        d.yank("core", 0, 1, true);
        d.refused(d.seen(), "publish", d.publish("core", 0, 1, 12), S);
        d.yank("core", 0, 1, false);
        d.refused(d.seen(), "publish", d.publish("core", 0, 1, 12), S);
    }

    static void promise03_theVersionsBesideOne_mayCome() {
        Desk d = Desk.withCore();
        Check.due("publish below it", d.publish("core", 0, 0, 0), 1);
        Check.due("publish above it", d.publish("core", 0, 2, 0), 2);
    }

    static void promise03_theSameVersionOfAnotherName_mayCome() {
        Desk d = Desk.withCore();
        Check.due("publish", d.publish("zebra", 0, 1, 0), 1);
    }

    static void promise03_withoutTheRight_itMayNotCome() {
        Desk d = Desk.withCore();
        for (int person = 1; person <= 7; person++) {
            Check.due("publish by " + person, d.publish("core", person, 2, 0), S);
        }
        Check.due("rows", d.rows(), 1);
    }

    static void promise03_withARightGiven_itMayCome() {
        Desk d = Desk.withCore();
        d.grant("core", 0, 7, true);
        Check.due("publish", d.publish("core", 7, 2, 0), 2);
    }

    static void promise03_withARightTaken_itMayNotCome() {
        Desk d = Desk.withCore();
        d.grant("core", 0, 7, true);
        d.grant("core", 0, 7, false);
        d.refused(d.seen(), "publish", d.publish("core", 7, 2, 0), S);
    }

    static void promise03_withTheRightForAnotherName_itMayNotCome() {
        Desk d = Desk.withCore();
        d.publish("zebra", 1, 1, 0);
        d.refused(d.seen(), "publish", d.publish("core", 1, 2, 0), S);
    }

    static void promise03_theLastRow_isTaken() {
        Desk d = Desk.withRows(119);
        Check.due("publish", d.publish("a", 0, 500, 0), 119);
        Check.due("rows", d.rows(), 120);
        Check.due("version", d.version("a", LOG, 500), 1);
    }

    static void promise03_aNewNameAsTheLastRow_isTaken() {
        Desk d = Desk.withRows(119);
        Check.due("publish", d.publish("core", 5, 500, 0), 119);
        Check.due("founder", d.founder("core", LOG), 5);
    }

    static void promise03_oneRowMore_isRefused() {
        Desk d = Desk.withRows(120);
        d.refused(d.seen(), "publish", d.publish("a", 0, 500, 0), S);
        d.refused(d.seen(), "publish of a new NAME", d.publish("core", 5, 500, 0), S);
        Check.due("version", d.version("a", LOG, 500), 0);
        Check.due("founder", d.founder("core", LOG), -1);
    }

    static void promise03_wrongArgumentsInAFullLog_areWrongArguments() {
        Desk d = Desk.withRows(120);
        Check.due("no NAME", d.publish("-", 0, 500, 0), A);
        Check.due("no person", d.publish("a", 8, 500, 0), A);
        Check.due("no VERSION", d.publish("a", 0, 1000, 0), A);
    }

    static void promise03_wrongArgumentsOfARowThatMayNotCome_areWrongArguments() {
        Desk d = Desk.withCore();
        Check.due("no person, VERSION there", d.publish("core", 8, 1, 0), A);
        Check.due("no VERSION, no right", d.publish("core", 1, 1000, 0), A);
        Check.due("no person, NEAR", d.publish("cores", -1, 1, 0), A);
    }

    static void promise03_behindARefusedCall_theNextOneIsTaken() {
        Desk d = new Desk();
        d.publish("core", 8, 1, 0);
        d.publish("-", 0, 1, 0);
        Check.due("publish", d.publish("core", 0, 1, 11), 0);
        d.publish("core", 1, 2, 0);
        d.publish("core", 0, 1, 0);
        Check.due("publish", d.publish("core", 0, 2, 22), 1);
    }
}
