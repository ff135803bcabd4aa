/** Promise 2: type. */
public final class Promise02TypeTest {
    private static final int LOG = Desk.LOG;

    public static void main(String[] args) {
        Check.run(Promise02TypeTest.class);
    }

    private static void typed(int code, boolean due) {
        Check.due("type of the code " + code, new Desk().type((char) code), due);
    }

    private static Desk withText(int length) {
        Desk d = new Desk();
        for (int i = 0; i < length; i++) {
            Check.due("type number " + i, d.type('a'), true);
        }
        return d;
    }

    static void promise02_code31_isRefused() {
        typed(31, false);
    }

    static void promise02_code32_isTaken() {
        typed(32, true);
    }

    static void promise02_code126_isTaken() {
        typed(126, true);
    }

    static void promise02_code127_isRefused() {
        typed(127, false);
    }

    static void promise02_code0_isRefused() {
        typed(0, false);
    }

    static void promise02_code65535_isRefused() {
        typed(65535, false);
    }

    static void promise02_aCodeThatIsALetterInItsLowByte_isRefused() {
        typed(256 + 'a', false);
        typed(128 + 'a', false);
        typed(65536 - 256 + 'a', false);
    }

    static void promise02_justTheCodesFrom32To126_areTaken() {
        for (int code = 0; code <= 65535; code++) {
            typed(code, code >= 32 && code <= 126);
        }
    }

    static void promise02_the24th_isTaken() {
        Check.due("type the 24th", withText(23).type('a'), true);
    }

    static void promise02_the25th_isRefused() {
        Check.due("type the 25th", withText(24).type('a'), false);
    }

    static void promise02_the26th_isRefusedToo() {
        Desk d = withText(24);
        d.type('a');
        Check.due("type the 26th", d.type('b'), false);
        Check.due("publish of 24", d.publish("", 0, 0, 0), Desk.ARGUMENT);
    }

    static void promise02_eachCharacterThatIsNoLetter_countsTo24() {
        Desk d = new Desk();
        for (int i = 0; i < 24; i++) {
            Check.due("type number " + i, d.type(i % 2 == 0 ? ' ' : '~'), true);
        }
        Check.due("type the 25th", d.type('~'), false);
    }

    static void promise02_aWrongCharacterInAFullText_isRefused() {
        Desk d = withText(24);
        Check.due("type 31", d.type((char) 31), false);
        Check.due("type 127", d.type((char) 127), false);
    }

    static void promise02_aWrongCharacter_isNotAppended() {
        Desk d = Desk.withCore();
        d.type("c\u007fo\u001fr\u0165e\u0000");
        Check.due("founder", d.founder("", LOG), 0);
    }

    static void promise02_aWrongCharacter_takesNoPlace() {
        Desk d = new Desk();
        for (int i = 0; i < 24; i++) {
            d.type((char) 127);
        }
        for (int i = 0; i < 24; i++) {
            Check.due("type number " + i, d.type('a'), true);
        }
    }

    static void promise02_the25th_isNotAppended() {
        Desk d = new Desk();
        d.publish("abcdefghij", 0, 0, 0);
        d.type("abcdefghij>klmnopqrst   ");
        d.type("xyz");
        Check.due("move of 24 characters", d.move("", 0), Desk.ARGUMENT);
        Check.due("TEXT is empty then", d.founder("abcdefghij", LOG), 0);
    }

    static void promise02_the25th_isRefusedUntilTextIsTaken() {
        Desk d = withText(24);
        Check.due("type the 25th", d.type('a'), false);
        d.founder("", LOG);
        for (int i = 0; i < 24; i++) {
            Check.due("type number " + i + " again", d.type('a'), true);
        }
        Check.due("type the 25th again", d.type('a'), false);
    }

    static void promise02_characters_keepTheirOrder() {
        Desk d = new Desk();
        d.publish("abcz", 4, 0, 0);
        Check.due("founder", d.founder("abcz", LOG), 4);
        Check.due("founder in turn", d.founder("zcba", LOG), -1);
        Check.due("DIGEST", d.digest(0), Exact.mixAll(0, 4, 'a', 'b', 'c', 'z', 256, 0, 0));
    }

    static void promise02_theSameCharacterTwice_isThereTwice() {
        Desk d = new Desk();
        d.publish("aab", 4, 0, 0);
        Check.due("DIGEST", d.digest(0), Exact.mixAll(0, 4, 'a', 'a', 'b', 256, 0, 0));
    }
}
