/** Promise 6: move. */
public final class Promise06MoveTest {
    private static final int A = Desk.ARGUMENT;
    private static final int S = Desk.STATE;
    private static final int LOG = Desk.LOG;

    public static void main(String[] args) {
        Check.run(Promise06MoveTest.class);
    }

    private static void isNoMove(String text) {
        Desk d = Desk.withCore();
        d.refused(d.seen(), "move of '" + text + "'", d.move(text, 0), A);
    }

    static void promise06_theAnswer_isTheRowsNumber() {
        Desk d = Desk.withCore();
        Check.due("move", d.move("core>kernel", 0), 1);
        Check.due("move again", d.move("kernel>zebra", 0), 2);
        Check.due("rows", d.rows(), 3);
    }

    static void promise06_person0_isTaken() {
        Check.due("move", Desk.withCore().move("core>kernel", 0), 1);
    }

    static void promise06_person7_isTaken() {
        Desk d = new Desk();
        d.publish("core", 7, 0, 0);
        Check.due("move", d.move("core>kernel", 7), 1);
    }

    static void promise06_personMinus1_isNone() {
        Desk d = Desk.withCore();
        d.refused(d.seen(), "move", d.move("core>kernel", -1), A);
        d.refused(d.seen(), "move of one not KNOWN", d.move("zebra>kernel", -1), A);
    }

    static void promise06_person8_isNone() {
        Desk d = Desk.withCore();
        d.refused(d.seen(), "move", d.move("core>kernel", 8), A);
    }

    static void promise06_personsFarOut_areNone() {
        Desk d = Desk.withCore();
        for (int person : Desk.FAR_OUT) {
            Check.due("move by " + person, d.move("core>kernel", person), A);
        }
        Check.due("rows", d.rows(), 1);
    }

    static void promise06_anEmptyText_isNoMove() {
        isNoMove("");
    }

    static void promise06_aNameAlone_isNoMove() {
        isNoMove("core");
    }

    static void promise06_theMarkAlone_isNoMove() {
        isNoMove(">");
    }

    static void promise06_noNameInFront_isNoMove() {
        isNoMove(">kernel");
        isNoMove("-core>kernel");
        isNoMove("core->kernel");
    }

    static void promise06_noNameBehind_isNoMove() {
        isNoMove("core>");
        isNoMove("core>-kernel");
        isNoMove("core>kernel-");
    }

    static void promise06_twoMarks_areNoMove() {
        isNoMove("core>>kernel");
        isNoMove("core>kernel>");
        isNoMove(">core>kernel");
        isNoMove("core>kernel>zebra");
    }

    static void promise06_anotherMark_isNoMove() {
        isNoMove("core<kernel");
        isNoMove("core=kernel");
        isNoMove("core?kernel");
        isNoMove("core kernel");
        isNoMove("core-kernel");
    }

    static void promise06_blanksRoundTheMark_areNoMove() {
        isNoMove("core >kernel");
        isNoMove("core> kernel");
        isNoMove(" core>kernel");
        isNoMove("core>kernel ");
    }

    static void promise06_twoNamesOf10_areAMove() {
        Desk d = new Desk();
        d.publish("abcdefghij", 0, 0, 0);
        Check.due("move", d.move("abcdefghij>klmnopqrst", 0), 1);
        Check.due("founder", d.founder("klmnopqrst", LOG), 0);
    }

    static void promise06_twoNamesOf1_areAMove() {
        Desk d = new Desk();
        d.publish("a", 0, 0, 0);
        Check.due("move", d.move("a>b", 0), 1);
        Check.due("founder", d.founder("b", LOG), 0);
    }

    static void promise06_aFirstNameOf11_isNoMove() {
        isNoMove("abcdefghijk>kernel");
    }

    static void promise06_anotherNameOf11_isNoMove() {
        isNoMove("core>abcdefghijk");
    }

    static void promise06_aTextOf24_isNoMove() {
        isNoMove("abcdefghijk>klmnopqrstuv");
        isNoMove("core>kernel             ");
    }

    static void promise06_aNameThatIsNotKnown_mayNotCome() {
        Desk d = new Desk();
        d.refused(d.seen(), "move in an empty log", d.move("core>kernel", 0), S);
        Desk e = Desk.withCore();
        e.refused(e.seen(), "move of zebra", e.move("zebra>kernel", 0), S);
        e.refused(e.seen(), "move of zebra to core", e.move("zebra>core", 0), S);
    }

    static void promise06_aNearName_isNotTheSame() {
        Desk d = Desk.withCore();
        d.refused(d.seen(), "move of c-ore", d.move("c-ore>kernel", 0), S);
    }

    static void promise06_aGoneName_mayNotCome() {
        Desk d = Desk.withCore();
        d.move("core>kernel", 0);
        d.refused(d.seen(), "move", d.move("core>zebra", 0), S);
    }

    static void promise06_byAnotherThanTheFounder_itMayNotCome() {
        Desk d = Desk.withCore();
        for (int person = 1; person <= 7; person++) {
            Check.due("move by " + person, d.move("core>kernel", person), S);
        }
        Check.due("rows", d.rows(), 1);
    }

    static void promise06_byOneWithTheRightAlone_itMayNotCome() {
        Desk d = Desk.withCore();
        d.grant("core", 0, 1, true);
        d.refused(d.seen(), "move", d.move("core>kernel", 1), S);
    }

    static void promise06_byTheFounderBehindAMove_itMayCome() {
        Desk d = Desk.withCore();
        d.grant("core", 0, 1, true);
        d.move("core>kernel", 0);
        d.refused(d.seen(), "move by 1", d.move("kernel>zebra", 1), S);
        Check.due("move by 0", d.move("kernel>zebra", 0), 3);
    }

    static void promise06_toTheSame_itMayNotCome() {
        Desk d = Desk.withCore();
        d.refused(d.seen(), "move", d.move("core>core", 0), S);
        Check.due("founder", d.founder("core", LOG), 0);
    }

    static void promise06_toTheSameThatIsNotKnown_itMayNotCome() {
        Desk d = new Desk();
        d.refused(d.seen(), "move", d.move("core>core", 0), S);
    }

    static void promise06_toTheSameBehindAMove_itMayNotCome() {
        Desk d = Desk.withCore();
        d.move("core>kernel", 0);
        d.refused(d.seen(), "move", d.move("kernel>kernel", 0), S);
        Check.due("founder", d.founder("kernel", LOG), 0);
    }

    static void promise06_toAKnownName_itMayNotCome() {
        Desk d = Desk.withCore();
        d.publish("zebra", 1, 0, 0);
        d.publish("mantle", 0, 0, 0);
        d.refused(d.seen(), "move to another's", d.move("core>zebra", 0), S);
        d.refused(d.seen(), "move to one's own", d.move("core>mantle", 0), S);
    }

    static void promise06_toAGoneName_itMayNotCome() {
        Desk d = Desk.withCore();
        d.publish("zebra", 1, 0, 0);
        d.move("core>kernel", 0);
        d.refused(d.seen(), "move back", d.move("kernel>core", 0), S);
        d.refused(d.seen(), "move of another", d.move("zebra>core", 1), S);
    }

    static void promise06_toANameNearAnother_itMayNotCome() {
        Desk d = Desk.withCore();
        d.publish("zebra", 1, 0, 0);
        d.publish("mantle", 0, 0, 0);
        d.refused(d.seen(), "NEAR another's", d.move("core>zebras", 0), S);
        d.refused(d.seen(), "NEAR one's own", d.move("core>m-antle", 0), S);
    }

    static void promise06_toANameNearTheMovedOneAlone_itMayCome() {
        Desk d = Desk.withCore();
        Check.due("move to c-ore", d.move("core>c-ore", 0), 1);
        Check.due("move to cores", d.move("c-ore>cores", 0), 2);
        Check.due("move to bores", d.move("cores>bores", 0), 3);
    }

    static void promise06_toANameNearTheLastOfThreeWhichIsMoved_itMayCome() {
        Desk d = Desk.withCore();
        d.publish("zebra", 1, 0, 0);
        d.publish("mantle", 1, 0, 0);
        Check.due("move", d.move("mantle>mantles", 1), 3);
        d.refused(d.seen(), "NEAR the second", d.move("mantles>zebras", 1), S);
        d.refused(d.seen(), "NEAR the first", d.move("mantles>cores", 1), S);
    }

    static void promise06_toANameNearTheMovedOneAndAnother_itMayNotCome() {
        Desk d = new Desk();
        d.publish("core", 0, 0, 0);
        d.publish("corezz", 1, 0, 0);
        d.refused(d.seen(), "move", d.move("core>corez", 0), S);
        Desk e = new Desk();
        e.publish("corezz", 1, 0, 0);
        e.publish("core", 0, 0, 0);
        e.refused(e.seen(), "move", e.move("core>corez", 0), S);
    }

    static void promise06_toANameNearAGoneOne_itMayCome() {
        Desk d = Desk.withCore();
        d.publish("zebra", 1, 0, 0);
        d.move("core>kernel", 0);
        Check.due("move", d.move("zebra>cores", 1), 3);
    }

    static void promise06_toANameNearWhatItOnceWas_itMayCome() {
        Desk d = Desk.withCore();
        d.move("core>kernel", 0);
        Check.due("move", d.move("kernel>cores", 0), 2);
    }

    static void promise06_theNameMoved_isGone() {
        Desk d = Desk.withCore();
        d.move("core>kernel", 0);
        Check.due("founder", d.founder("core", LOG), -1);
        Check.due("publish", d.publish("core", 0, 2, 0), S);
    }

    static void promise06_asTheLastRow_itIsTaken() {
        Desk d = Desk.withRows(119);
        Check.due("move", d.move("a>core", 0), 119);
        Check.due("founder", d.founder("core", LOG), 0);
        Check.due("founder of the GONE one", d.founder("a", LOG), -1);
    }

    static void promise06_oneRowMore_isRefused() {
        Desk d = Desk.withRows(120);
        d.refused(d.seen(), "move", d.move("a>core", 0), S);
        Check.due("founder", d.founder("a", LOG), 0);
        Check.due("founder of the other one", d.founder("core", LOG), -1);
    }

    static void promise06_wrongArgumentsInAFullLog_areWrongArguments() {
        Desk d = Desk.withRows(120);
        Check.due("no mark", d.move("a", 0), A);
        Check.due("no NAME", d.move("a>-", 0), A);
        Check.due("no person", d.move("a>core", 8), A);
    }

    static void promise06_wrongArgumentsOfARowThatMayNotCome_areWrongArguments() {
        Desk d = Desk.withCore();
        Check.due("no person, to the same", d.move("core>core", 8), A);
        Check.due("no other NAME, not the FOUNDER", d.move("core>-", 1), A);
        Check.due("no NAME, to a KNOWN one", d.move("Core>core", 0), A);
    }
}
