/** Terms: from when on a NAME is KNOWN, when it is GONE, and who has the right. */
public final class TermsStateTest {
    private static final int S = Desk.STATE;
    private static final int LOG = Desk.LOG;

    public static void main(String[] args) {
        Check.run(TermsStateTest.class);
    }

    /** core: VERSIONS 1 (SUM 11), 2 (SUM 22, yanked); FOUNDER 0, the right has 5. Four rows. */
    private static Desk withRichCore() {
        Desk d = Desk.withCore();
        d.publish("core", 0, 2, 22);
        d.yank("core", 0, 2, true);
        d.grant("core", 0, 5, true);
        return d;
    }

    static void terms_beforeItsFirstPublish_aNameIsNotKnown() {
        Desk d = new Desk();
        Check.due("founder", d.founder("core", LOG), -1);
        Check.due("yank", d.yank("core", 0, 1, true), S);
        Check.due("grant", d.grant("core", 0, 1, true), S);
        Check.due("move", d.move("core>kernel", 0), S);
        Check.due("rows", d.rows(), 0);
    }

    static void terms_fromItsFirstPublishOn_aNameIsKnown() {
        Desk d = Desk.withCore();
        Check.due("founder", d.founder("core", LOG), 0);
        Check.due("a NEAR one", d.publish("cores", 1, 0, 0), S);
        Check.due("yank", d.yank("core", 0, 1, true), 1);
    }

    static void terms_aRefusedPublish_makesNoNameKnown() {
        Desk d = Desk.withCore();
        d.publish("cores", 1, 0, 0);
        Check.due("founder", d.founder("cores", LOG), -1);
        Check.due("NEAR the refused one alone", d.publish("corest", 1, 0, 0), 1);
    }

    static void terms_beforeAMoveToIt_aNameIsNotKnown() {
        Desk d = Desk.withCore();
        Check.due("founder", d.founder("kernel", LOG), -1);
        Check.due("NEAR it", d.publish("kernels", 1, 0, 0), 1);
    }

    static void terms_fromAMoveToItOn_aNameIsKnown() {
        Desk d = Desk.withCore();
        d.move("core>kernel", 0);
        Check.due("founder", d.founder("kernel", LOG), 0);
        Check.due("NEAR it", d.publish("kernels", 1, 0, 0), S);
    }

    static void terms_aRefusedMove_makesNoNameKnownOrGone() {
        Desk d = Desk.withCore();
        d.move("core>kernel", 1);
        Check.due("founder of the first", d.founder("core", LOG), 0);
        Check.due("founder of the other", d.founder("kernel", LOG), -1);
        Check.due("publish of the first", d.publish("core", 0, 2, 0), 1);
    }

    static void terms_theFounder_isWhoWroteTheFirstPublish() {
        Desk d = withRichCore();
        d.publish("core", 5, 3, 33);
        Check.due("founder", d.founder("core", LOG), 0);
        Check.due("grant by the later one", d.grant("core", 5, 6, true), S);
        Check.due("grant by the first one", d.grant("core", 0, 6, true), 5);
    }

    static void terms_aGoneName_isNotPublishedAgain() {
        Desk d = Desk.withCore();
        d.move("core>kernel", 0);
        Check.due("by its FOUNDER", d.publish("core", 0, 2, 0), S);
        Check.due("by another", d.publish("core", 1, 2, 0), S);
        Check.due("rows", d.rows(), 2);
    }

    static void terms_aGoneName_isNotMovedToAgain() {
        Desk d = Desk.withCore();
        d.publish("zebra", 1, 0, 0);
        d.move("core>kernel", 0);
        Check.due("by its FOUNDER", d.move("kernel>core", 0), S);
        Check.due("by another", d.move("zebra>core", 1), S);
    }

    static void terms_aGoneName_isStillGoneBehindASecondMove() {
        Desk d = Desk.withCore();
        d.move("core>kernel", 0);
        d.move("kernel>zebra", 0);
        Check.due("back to the first", d.move("zebra>core", 0), S);
        Check.due("back to the second", d.move("zebra>kernel", 0), S);
        Check.due("publish of the first", d.publish("core", 1, 0, 0), S);
        Check.due("publish of the second", d.publish("kernel", 1, 0, 0), S);
        Check.due("founder of the first", d.founder("core", LOG), -1);
        Check.due("founder of the second", d.founder("kernel", LOG), -1);
        Check.due("founder of the third", d.founder("zebra", LOG), 0);
    }

    static void terms_aGoneName_hasNothing() {
        Desk d = withRichCore();
        d.move("core>kernel", 0);
        Check.due("founder", d.founder("core", LOG), -1);
        Check.due("has of the FOUNDER", d.has("core", LOG, 0), false);
        Check.due("has of another", d.has("core", LOG, 5), false);
        Check.due("version", d.version("core", LOG, 1), 0);
        Check.due("sum", d.sum("core", LOG, 1), 0);
        Check.due("yank", d.yank("core", 0, 1, true), S);
        Check.due("grant", d.grant("core", 0, 6, true), S);
        Check.due("move", d.move("core>zebra", 0), S);
    }

    static void terms_aNameNearAGoneOne_mayCome() {
        Desk d = Desk.withCore();
        d.move("core>kernel", 0);
        Check.due("publish of cores", d.publish("cores", 1, 0, 0), 2);
        Check.due("founder of cores", d.founder("cores", LOG), 1);
    }

    static void terms_aMoveToANameNearAGoneOne_mayCome() {
        Desk d = Desk.withCore();
        d.publish("zebra", 1, 0, 0);
        d.move("core>kernel", 0);
        Check.due("move", d.move("zebra>cores", 1), 3);
    }

    static void terms_whatANameHad_isTheOtherOnes() {
        Desk d = withRichCore();
        d.move("core>kernel", 0);
        Check.due("founder", d.founder("kernel", LOG), 0);
        Check.due("has of the FOUNDER", d.has("kernel", LOG, 0), true);
        Check.due("has of another", d.has("kernel", LOG, 5), true);
        Check.due("has of a third", d.has("kernel", LOG, 6), false);
        Check.due("version 1", d.version("kernel", LOG, 1), 1);
        Check.due("version 2", d.version("kernel", LOG, 2), 2);
        Check.due("version 3", d.version("kernel", LOG, 3), 0);
        Check.due("sum 1", d.sum("kernel", LOG, 1), 11);
        Check.due("sum 2", d.sum("kernel", LOG, 2), 22);
    }

    static void terms_whatANameHad_bindsTheOtherOne() {
        Desk d = withRichCore();
        d.move("core>kernel", 0);
        Check.due("a VERSION that is there", d.publish("kernel", 0, 1, 0), S);
        Check.due("a yank that is so", d.yank("kernel", 0, 2, true), S);
        Check.due("a right that is so", d.grant("kernel", 0, 5, true), S);
        Check.due("a VERSION more, by the right", d.publish("kernel", 5, 3, 33), 5);
        Check.due("the yank taken back", d.yank("kernel", 5, 2, false), 6);
        Check.due("the right taken back", d.grant("kernel", 0, 5, false), 7);
    }

    static void terms_whatANameHad_goesThroughTwoMoves() {
        Desk d = withRichCore();
        d.move("core>kernel", 0);
        d.publish("kernel", 5, 3, 33);
        d.move("kernel>zebra", 0);
        Check.due("founder", d.founder("zebra", LOG), 0);
        Check.due("has", d.has("zebra", LOG, 5), true);
        Check.due("version 2", d.version("zebra", LOG, 2), 2);
        Check.due("sum 1", d.sum("zebra", LOG, 1), 11);
        Check.due("sum 3", d.sum("zebra", LOG, 3), 33);
        Check.due("NEAR the last", d.publish("zebras", 1, 0, 0), S);
        Check.due("NEAR the middle one", d.publish("kernels", 1, 0, 0), 7);
    }

    static void terms_twoNamesMoved_keepWhatEachHad() {
        Desk d = withRichCore();
        d.publish("zebra", 6, 2, 99);
        d.grant("zebra", 6, 7, true);
        d.move("core>kernel", 0);
        d.move("zebra>core-x", 6);
        Check.due("founder of the first", d.founder("kernel", LOG), 0);
        Check.due("founder of the second", d.founder("core-x", LOG), 6);
        Check.due("has of the first", d.has("kernel", LOG, 7), false);
        Check.due("has of the second", d.has("core-x", LOG, 7), true);
        Check.due("version of the first", d.version("kernel", LOG, 2), 2);
        Check.due("version of the second", d.version("core-x", LOG, 2), 1);
        Check.due("sum of the first", d.sum("kernel", LOG, 2), 22);
        Check.due("sum of the second", d.sum("core-x", LOG, 2), 99);
    }

    static void terms_anotherNameWithTheSameVersions_isItsOwn() {
        Desk d = withRichCore();
        d.publish("zebra", 6, 2, 99);
        Check.due("version", d.version("zebra", LOG, 2), 1);
        Check.due("version 1", d.version("zebra", LOG, 1), 0);
        Check.due("sum", d.sum("zebra", LOG, 2), 99);
        Check.due("sum of the first", d.sum("core", LOG, 2), 22);
        Check.due("has", d.has("zebra", LOG, 5), false);
        Check.due("has of the first", d.has("core", LOG, 6), false);
        Check.due("yank", d.yank("zebra", 6, 2, true), 5);
        Check.due("yank of the first taken back", d.yank("core", 0, 2, false), 6);
        Check.due("version stays yanked", d.version("zebra", LOG, 2), 2);
    }

    static void terms_theFounder_hasTheRightWithoutAGrant() {
        Desk d = Desk.withCore();
        Check.due("has", d.has("core", LOG, 0), true);
        Check.due("publish", d.publish("core", 0, 2, 0), 1);
    }

    static void terms_another_hasNoRightWithoutAGrant() {
        Desk d = Desk.withCore();
        for (int person = 1; person <= 7; person++) {
            Check.due("has " + person, d.has("core", LOG, person), false);
            Check.due("publish by " + person, d.publish("core", person, 2, 0), S);
        }
    }

    static void terms_theLastGrant_givesTheRight() {
        Desk d = Desk.withCore();
        d.grant("core", 0, 5, true);
        d.grant("core", 0, 5, false);
        d.grant("core", 0, 5, true);
        Check.due("has", d.has("core", LOG, 5), true);
        Check.due("publish", d.publish("core", 5, 2, 0), 4);
    }

    static void terms_theLastGrant_takesTheRight() {
        Desk d = Desk.withCore();
        d.grant("core", 0, 5, true);
        d.grant("core", 0, 5, false);
        Check.due("has", d.has("core", LOG, 5), false);
        Check.due("publish", d.publish("core", 5, 2, 0), S);
        Check.due("yank", d.yank("core", 5, 1, true), S);
    }

    static void terms_aGrantToOne_leavesTheOthersTheirs() {
        Desk d = Desk.withCore();
        d.grant("core", 0, 5, true);
        d.grant("core", 0, 7, true);
        Check.due("has 5", d.has("core", LOG, 5), true);
        Check.due("has 7", d.has("core", LOG, 7), true);
        d.grant("core", 0, 7, false);
        Check.due("has 5 still", d.has("core", LOG, 5), true);
        Check.due("has 7 no more", d.has("core", LOG, 7), false);
        Check.due("the FOUNDER still", d.has("core", LOG, 0), true);
    }

    static void terms_whatWasWrittenWithARightTakenLater_stays() {
        Desk d = Desk.withCore();
        d.grant("core", 0, 5, true);
        d.publish("core", 5, 2, 22);
        d.grant("core", 0, 5, false);
        Check.due("version", d.version("core", LOG, 2), 1);
        Check.due("sum", d.sum("core", LOG, 2), 22);
    }
}
