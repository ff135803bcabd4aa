/** Promise 21: founder. */
public final class Promise21FounderTest {
    private static final int LOG = Desk.LOG;

    public static void main(String[] args) {
        Check.run(Promise21FounderTest.class);
    }

    static void promise21_person0_isAnswered() {
        Check.due("founder", Desk.withCore().founder("core", LOG), 0);
    }

    static void promise21_person7_isAnswered() {
        Desk d = new Desk();
        d.publish("core", 7, 0, 0);
        Check.due("founder", d.founder("core", LOG), 7);
    }

    static void promise21_anEmptyLog_knowsNone() {
        Check.due("founder", new Desk().founder("core", LOG), -1);
    }

    static void promise21_anEmptyText_isNoName() {
        Check.due("founder", Desk.withCore().founder("", LOG), -1);
    }

    static void promise21_noName_isNone() {
        Desk d = Desk.withCore();
        for (String text : new String[] {"-", "core-", "-core", "Core", "core ", "core>zebra"}) {
            Check.due("founder of '" + text + "'", d.founder(text, LOG), -1);
        }
    }

    static void promise21_aNameThatIsNotKnown_isNone() {
        Check.due("founder", Desk.withCore().founder("zebra", LOG), -1);
    }

    static void promise21_aNearName_isNotKnown() {
        Desk d = Desk.withCore();
        Check.due("founder of c-ore", d.founder("c-ore", LOG), -1);
        Check.due("founder of cor", d.founder("cor", LOG), -1);
        Check.due("founder of cores", d.founder("cores", LOG), -1);
    }

    static void promise21_aGoneName_isNone() {
        Desk d = Desk.withCore();
        d.move("core>kernel", 0);
        Check.due("founder", d.founder("core", LOG), -1);
        Check.due("founder of the other one", d.founder("kernel", LOG), 0);
    }

    static void promise21_twoNames_haveEachTheirs() {
        Desk d = Desk.withCore();
        d.publish("zebra", 5, 0, 0);
        Check.due("founder of core", d.founder("core", LOG), 0);
        Check.due("founder of zebra", d.founder("zebra", LOG), 5);
    }

    static void promise21_mirrors0And3_areAsked() {
        Desk d = Desk.withCore();
        d.publish("zebra", 5, 0, 0);
        d.follow(0, 1);
        d.follow(3, 2);
        Check.due("founder(0) of core", d.founder("core", 0), 0);
        Check.due("founder(0) of zebra", d.founder("zebra", 0), -1);
        Check.due("founder(3) of core", d.founder("core", 3), 0);
        Check.due("founder(3) of zebra", d.founder("zebra", 3), 5);
    }

    static void promise21_aMirrorWithoutRows_knowsNone() {
        Desk d = Desk.withCore();
        d.follow(0, 1);
        Check.due("founder(1)", d.founder("core", 1), -1);
    }

    static void promise21_aMirrorBehindAMove_hasTheOldName() {
        Desk d = Desk.withCore();
        d.follow(2, 1);
        d.move("core>kernel", 0);
        Check.due("founder(2) of core", d.founder("core", 2), 0);
        Check.due("founder(2) of kernel", d.founder("kernel", 2), -1);
        d.follow(2, 1);
        Check.due("founder(2) of core", d.founder("core", 2), -1);
        Check.due("founder(2) of kernel", d.founder("kernel", 2), 0);
    }

    static void promise21_mirror4_isNone() {
        Desk d = Desk.withCore();
        d.follow(3, 1);
        d.follow(0, 1);
        Check.due("founder(4)", d.founder("core", 4), -1);
    }

    static void promise21_mirrorMinus2_isNone() {
        Desk d = Desk.withCore();
        d.follow(0, 1);
        Check.due("founder(-2)", d.founder("core", -2), -1);
    }

    static void promise21_mirrorsFarOut_areNone() {
        Desk d = Desk.withCore();
        for (int mirror = 0; mirror < 4; mirror++) {
            d.follow(mirror, 1);
        }
        for (int mirror : Desk.FAR_OUT) {
            Check.due("founder(" + mirror + ")", d.founder("core", mirror), -1);
        }
    }

    static void promise21_row119_isAsked() {
        Desk d = Desk.withRows(119);
        d.publish("core", 6, 0, 0);
        d.follow(1, 119);
        Check.due("founder of the log", d.founder("core", LOG), 6);
        Check.due("founder of 119 rows", d.founder("core", 1), -1);
        d.follow(1, 1);
        Check.due("founder of 120 rows", d.founder("core", 1), 6);
    }
}
