/** Promise 5: grant. */
public final class Promise05GrantTest {
    private static final int A = Desk.ARGUMENT;
    private static final int S = Desk.STATE;
    private static final int LOG = Desk.LOG;

    public static void main(String[] args) {
        Check.run(Promise05GrantTest.class);
    }

    static void promise05_theAnswer_isTheRowsNumber() {
        Desk d = Desk.withCore();
        Check.due("grant", d.grant("core", 0, 1, true), 1);
        Check.due("grant back", d.grant("core", 0, 1, false), 2);
        Check.due("rows", d.rows(), 3);
    }

    static void promise05_personAndOther0And7_areTaken() {
        Desk d = Desk.withCore();
        Check.due("grant by 0 to 7", d.grant("core", 0, 7, true), 1);
        d.publish("zebra", 7, 0, 0);
        Check.due("grant by 7 to 0", d.grant("zebra", 7, 0, true), 3);
        Check.due("has 7", d.has("core", LOG, 7), true);
        Check.due("has 0", d.has("zebra", LOG, 0), true);
    }

    static void promise05_allSevenOthers_mayHaveTheRight() {
        Desk d = Desk.withCore();
        for (int other = 1; other <= 7; other++) {
            Check.due("grant to " + other, d.grant("core", 0, other, true), other);
        }
        for (int person = 0; person <= 7; person++) {
            Check.due("has " + person, d.has("core", LOG, person), true);
        }
    }

    static void promise05_personMinus1_isNone() {
        Desk d = Desk.withCore();
        d.refused(d.seen(), "grant", d.grant("core", -1, 1, true), A);
    }

    static void promise05_person8_isNone() {
        Desk d = Desk.withCore();
        d.refused(d.seen(), "grant", d.grant("core", 8, 1, true), A);
    }

    static void promise05_personsFarOut_areNone() {
        Desk d = Desk.withCore();
        for (int person : Desk.FAR_OUT) {
            Check.due("grant by " + person, d.grant("core", person, 1, true), A);
        }
        Check.due("rows", d.rows(), 1);
    }

    static void promise05_otherMinus1_isNone() {
        Desk d = Desk.withCore();
        d.refused(d.seen(), "grant", d.grant("core", 0, -1, true), A);
        d.refused(d.seen(), "grant back", d.grant("core", 0, -1, false), A);
    }

    static void promise05_other8_isNone() {
        Desk d = Desk.withCore();
        d.refused(d.seen(), "grant", d.grant("core", 0, 8, true), A);
        d.refused(d.seen(), "grant back", d.grant("core", 0, 8, false), A);
    }

    static void promise05_othersFarOut_areNone() {
        Desk d = Desk.withCore();
        for (int other : Desk.FAR_OUT) {
            Check.due("grant to " + other, d.grant("core", 0, other, true), A);
        }
        Check.due("rows", d.rows(), 1);
    }

    static void promise05_anEmptyText_isNoName() {
        Desk d = Desk.withCore();
        d.refused(d.seen(), "grant", d.grant("", 0, 1, true), A);
    }

    static void promise05_aNameThatIsNotKnown_mayNotCome() {
        Desk d = new Desk();
        d.refused(d.seen(), "grant in an empty log", d.grant("core", 0, 1, true), S);
        d.refused(d.seen(), "grant back in an empty log", d.grant("core", 0, 1, false), S);
        Desk e = Desk.withCore();
        e.refused(e.seen(), "grant of zebra", e.grant("zebra", 0, 1, true), S);
    }

    static void promise05_aNearName_isNotTheSame() {
        Desk d = Desk.withCore();
        d.refused(d.seen(), "grant of c-ore", d.grant("c-ore", 0, 1, true), S);
    }

    static void promise05_aGoneName_mayNotCome() {
        Desk d = Desk.withCore();
        d.move("core>kernel", 0);
        d.refused(d.seen(), "grant", d.grant("core", 0, 1, true), S);
        Check.due("grant of the other one", d.grant("kernel", 0, 1, true), 2);
    }

    static void promise05_byAnotherThanTheFounder_itMayNotCome() {
        Desk d = Desk.withCore();
        for (int person = 1; person <= 7; person++) {
            Check.due("grant by " + person, d.grant("core", person, person % 7 + 1, true), S);
        }
        Check.due("rows", d.rows(), 1);
    }

    static void promise05_byOneWithTheRightAlone_itMayNotCome() {
        Desk d = Desk.withCore();
        d.grant("core", 0, 1, true);
        d.refused(d.seen(), "grant by 1 to 2", d.grant("core", 1, 2, true), S);
        d.refused(d.seen(), "grant back by 1 to 1", d.grant("core", 1, 1, false), S);
    }

    static void promise05_toOneself_itMayNotCome() {
        Desk d = Desk.withCore();
        d.refused(d.seen(), "grant by 1 to 1", d.grant("core", 1, 1, true), S);
    }

    static void promise05_toTheFounder_itMayNotCome() {
        Desk d = Desk.withCore();
        d.refused(d.seen(), "grant", d.grant("core", 0, 0, true), S);
        d.refused(d.seen(), "grant back", d.grant("core", 0, 0, false), S);
        Check.due("has", d.has("core", LOG, 0), true);
    }

    static void promise05_toTheFounderBehindAMove_itMayNotCome() {
        Desk d = Desk.withCore();
        d.move("core>kernel", 0);
        d.refused(d.seen(), "grant", d.grant("kernel", 0, 0, true), S);
        d.refused(d.seen(), "grant back", d.grant("kernel", 0, 0, false), S);
    }

    static void promise05_aRightThatIsSoAlready_mayNotCome() {
        Desk d = Desk.withCore();
        d.grant("core", 0, 1, true);
        d.refused(d.seen(), "grant", d.grant("core", 0, 1, true), S);
        Check.due("has", d.has("core", LOG, 1), true);
    }

    static void promise05_takingWhatNeverWasGiven_mayNotCome() {
        Desk d = Desk.withCore();
        d.refused(d.seen(), "grant back", d.grant("core", 0, 1, false), S);
    }

    static void promise05_takingWhatIsTakenAlready_mayNotCome() {
        Desk d = Desk.withCore();
        d.grant("core", 0, 1, true);
        d.grant("core", 0, 1, false);
        d.refused(d.seen(), "grant back", d.grant("core", 0, 1, false), S);
        Check.due("has", d.has("core", LOG, 1), false);
    }

    static void promise05_givingWhatWasTaken_mayCome() {
        Desk d = Desk.withCore();
        d.grant("core", 0, 1, true);
        d.grant("core", 0, 1, false);
        Check.due("grant", d.grant("core", 0, 1, true), 3);
        Check.due("has", d.has("core", LOG, 1), true);
    }

    static void promise05_aRightOfAnother_isNotSoAlready() {
        Desk d = Desk.withCore();
        d.grant("core", 0, 1, true);
        Check.due("grant to 2", d.grant("core", 0, 2, true), 2);
        d.refused(d.seen(), "grant back to 3", d.grant("core", 0, 3, false), S);
    }

    static void promise05_aRightForAnotherName_isNotSoAlready() {
        Desk d = Desk.withCore();
        d.publish("zebra", 0, 0, 0);
        d.grant("core", 0, 1, true);
        d.refused(d.seen(), "grant back of zebra", d.grant("zebra", 0, 1, false), S);
        Check.due("grant of zebra", d.grant("zebra", 0, 1, true), 3);
    }

    static void promise05_asTheLastRow_itIsTaken() {
        Desk d = Desk.withRows(119);
        Check.due("grant", d.grant("a", 0, 1, true), 119);
        Check.due("has", d.has("a", LOG, 1), true);
    }

    static void promise05_oneRowMore_isRefused() {
        Desk d = Desk.withRows(120);
        d.refused(d.seen(), "grant", d.grant("a", 0, 1, true), S);
        Check.due("has", d.has("a", LOG, 1), false);
    }

    static void promise05_wrongArgumentsInAFullLog_areWrongArguments() {
        Desk d = Desk.withRows(120);
        Check.due("no NAME", d.grant("-", 0, 1, true), A);
        Check.due("no person", d.grant("a", 8, 1, true), A);
        Check.due("no other", d.grant("a", 0, 8, true), A);
    }

    static void promise05_wrongArgumentsOfARowThatMayNotCome_areWrongArguments() {
        Desk d = Desk.withCore();
        Check.due("no person, not KNOWN", d.grant("zebra", 8, 1, true), A);
        Check.due("no other, not the FOUNDER", d.grant("core", 1, 8, true), A);
    }
}
