import java.util.ArrayList;
import java.util.List;

/** Terms: what is a NAME, and which NAMES are NEAR. */
public final class TermsNamesTest {
    private static final int A = Desk.ARGUMENT;
    private static final int S = Desk.STATE;

    public static void main(String[] args) {
        Check.run(TermsNamesTest.class);
    }

    /** Every call that throws for no NAME takes this one. */
    private static void isName(String name) {
        String far = "mmmm";
        Check.due("publish of '" + name + "'", new Desk().publish(name, 0, 0, 0), 0);
        Desk d = new Desk();
        d.publish(name, 0, 0, 0);
        Check.due("yank of '" + name + "'", d.yank(name, 0, 0, true), 1);
        Check.due("grant of '" + name + "'", d.grant(name, 0, 1, true), 2);
        Check.due("founder of '" + name + "'", d.founder(name, Desk.LOG), 0);
        Check.due("move of '" + name + "'", d.move(name + ">" + far, 0), 3);
        Desk e = new Desk();
        e.publish(far, 0, 0, 0);
        Check.due("move to '" + name + "'", e.move(far + ">" + name, 0), 1);
    }

    /** No call that throws for no NAME takes this one, and the others answer as of none. */
    private static void isNoName(String name) {
        Desk d = Desk.withCore();
        Check.due("publish of '" + name + "'", d.publish(name, 0, 0, 0), A);
        Check.due("yank of '" + name + "'", d.yank(name, 0, 0, true), A);
        Check.due("grant of '" + name + "'", d.grant(name, 0, 1, true), A);
        Check.due("move of '" + name + "'", d.move(name + ">mmmm", 0), A);
        Check.due("move to '" + name + "'", d.move("core>" + name, 0), A);
        Check.due("founder of '" + name + "'", d.founder(name, Desk.LOG), -1);
        Check.due("has of '" + name + "'", d.has(name, Desk.LOG, 0), false);
        Check.due("version of '" + name + "'", d.version(name, Desk.LOG, 1), 0);
        Check.due("sum of '" + name + "'", d.sum(name, Desk.LOG, 1), 0);
        Check.due("rows", d.rows(), 1);
    }

    static void terms_nameOfNoCharacter_isNone() {
        isNoName("");
    }

    static void terms_nameOf1Character_isOne() {
        isName("a");
        isName("z");
    }

    static void terms_nameOf10Characters_isOne() {
        isName("abcdefghij");
    }

    static void terms_nameOf11Characters_isNone() {
        isNoName("abcdefghijk");
    }

    static void terms_nameOf10CharactersWithHyphens_isOne() {
        isName("a-b-c-d-ef");
    }

    static void terms_nameOf10LettersAndAHyphen_isNone() {
        isNoName("abcde-fghij");
        isNoName("a-b-c-d-e-f");
    }

    static void terms_theLettersAAndZ_areInNames() {
        isName("aza");
        isName("zaz");
        isName("a-z");
    }

    static void terms_theCharacterBelowA_isInNoName() {
        isNoName("`");
        isNoName("b`b");
        isNoName("bb`");
    }

    static void terms_theCharacterAboveZ_isInNoName() {
        isNoName("{");
        isNoName("b{b");
        isNoName("bb{");
    }

    static void terms_theCharactersBesideTheHyphen_areInNoName() {
        isNoName("b,b");
        isNoName("b.b");
    }

    static void terms_capitals_areInNoName() {
        isNoName("Core");
        isNoName("corE");
        isNoName("A");
        isNoName("Z");
    }

    static void terms_digits_areInNoName() {
        isNoName("core1");
        isNoName("0");
        isNoName("9a");
    }

    static void terms_theBlank_isInNoName() {
        isNoName(" ");
        isNoName(" core");
        isNoName("core ");
        isNoName("co re");
    }

    static void terms_everyOtherCharacter_isInNoName() {
        for (char c = 32; c <= 126; c++) {
            boolean inside = c == '-' || c >= 'a' && c <= 'z';
            if (!inside) {
                Desk d = new Desk();
                Check.due("publish of b" + c + "b", d.publish("b" + c + "b", 0, 0, 0), A);
                Check.due("publish of " + c, d.publish("" + c, 0, 0, 0), A);
            } else {
                Check.due("publish of b" + c + "b",
                        new Desk().publish("b" + c + "b", 0, 0, 0), 0);
            }
        }
    }

    static void terms_aHyphenAlone_isNone() {
        isNoName("-");
        isNoName("--");
    }

    static void terms_aHyphenAtTheBeginning_isNone() {
        isNoName("-a");
        isNoName("-core");
    }

    static void terms_aHyphenAtTheEnd_isNone() {
        isNoName("a-");
        isNoName("core-");
    }

    static void terms_twoHyphensTogether_areNone() {
        isNoName("a--b");
        isNoName("co---re");
        isNoName("a-b--c");
    }

    static void terms_twoHyphensApart_areInAName() {
        isName("a-b-c");
    }

    static void terms_theMarkOfMove_isInNoName() {
        Desk d = new Desk();
        Check.due("publish", d.publish("a>b", 0, 0, 0), A);
        Check.due("yank", d.yank("a>b", 0, 0, true), A);
        Check.due("grant", d.grant("a>b", 0, 1, true), A);
    }

    private static int second(String first, String second) {
        Desk d = new Desk();
        d.publish(first, 0, 0, 0);
        return d.publish(second, 1, 0, 0);
    }

    private static int movedTo(String first, String second) {
        Desk d = new Desk();
        d.publish(first, 0, 0, 0);
        d.publish("mmmmmmm", 1, 0, 0);
        return d.move("mmmmmmm>" + second, 1);
    }

    private static void near(String one, String other) {
        Check.due(one + ", then " + other, second(one, other), S);
        Check.due(other + ", then " + one, second(other, one), S);
        Check.due(one + ", then a MOVE to " + other, movedTo(one, other), S);
        Check.due(other + ", then a MOVE to " + one, movedTo(other, one), S);
    }

    private static void far(String one, String other) {
        Check.due(one + ", then " + other, second(one, other), 1);
        Check.due(other + ", then " + one, second(other, one), 1);
        Check.due(one + ", then a MOVE to " + other, movedTo(one, other), 2);
        Check.due(other + ", then a MOVE to " + one, movedTo(other, one), 2);
    }

    static void terms_theSameFolded_areNear() {
        near("core", "c-ore");
        near("c-ore", "co-re");
        near("c-o-r-e", "core");
        near("a-a", "aa");
        near("abcdefghi", "abcde-fghi");
    }

    static void terms_oneOtherLetter_isNear() {
        near("core", "bore");
        near("core", "care");
        near("core", "cord");
        near("abcdefghij", "abcdefghix");
    }

    static void terms_twoOtherLetters_areNotNear() {
        far("core", "bare");
        far("core", "cold");
        far("core", "bord");
        far("abcdefghij", "xbcdefghix");
    }

    static void terms_oneLetterMissing_isNear() {
        near("core", "ore");
        near("core", "cre");
        near("core", "cor");
        near("abcdefghij", "abcdefghi");
    }

    static void terms_twoLettersMissing_areNotNear() {
        far("core", "co");
        far("core", "re");
        far("core", "or");
        far("aaaaaaaaaa", "aaaaaaaa");
    }

    static void terms_oneLetterMore_isNear() {
        near("core", "xcore");
        near("core", "coxre");
        near("core", "corex");
        near("core", "score");
    }

    static void terms_twoLettersMore_areNotNear() {
        far("core", "xxcore");
        far("core", "xcorex");
        far("core", "corexx");
        far("ab", "abab");
    }

    static void terms_oneOtherLetterAndOneMore_areNotNear() {
        far("core", "carex");
        far("core", "xcare");
    }

    static void terms_twoLettersInTurn_areNotNear() {
        far("core", "ocre");
        far("core", "coer");
        far("ab", "ba");
    }

    static void terms_oneLetterAtTheOtherEnd_isNotNear() {
        far("core", "orec");
        far("abcd", "bcde");
    }

    static void terms_hyphensWithOneLetter_areNear() {
        near("c-ore", "cores");
        near("core", "co-r");
        near("c-o-r-e", "ca-re");
    }

    static void terms_hyphensWithTwoLetters_areNotNear() {
        far("c-ore", "coresx");
        far("c-ore", "c-are-s");
        far("a-b", "c-d");
    }

    static void terms_namesOf1Letter_areNear() {
        near("a", "b");
        near("a", "z");
    }

    static void terms_namesOf1And2Letters_areNearByACommonOne() {
        near("a", "ab");
        near("a", "b-a");
        far("a", "bc");
    }

    static void terms_namesOf1And3Letters_areNotNear() {
        far("a", "aaa");
        far("a", "a-a-a");
        far("a", "bab");
    }

    static void terms_aNameNearTheFirstOfTwo_isNear() {
        Desk d = new Desk();
        d.publish("core", 0, 0, 0);
        d.publish("kernel", 0, 0, 0);
        Check.due("publish of cores", d.publish("cores", 0, 0, 0), S);
    }

    static void terms_aNameNearTheLastOfTwo_isNear() {
        Desk d = new Desk();
        d.publish("core", 0, 0, 0);
        d.publish("kernel", 0, 0, 0);
        Check.due("publish of kernels", d.publish("kernels", 0, 0, 0), S);
    }

    static void terms_allShortNames_areNearByOneLetterAtMost() {
        List<String> names = new ArrayList<>();
        addNames("", names);
        for (String one : names) {
            for (String other : names) {
                boolean free = !Model.isNear(one, other);
                if (!one.equals(other)) {
                    Check.due(one + ", then " + other, second(one, other), free ? 1 : S);
                }
            }
        }
    }

    private static void addNames(String begun, List<String> names) {
        if (Model.isName(begun)) {
            names.add(begun);
        }
        if (begun.length() < 4) {
            addNames(begun + "a", names);
            addNames(begun + "b", names);
            addNames(begun + "-", names);
        }
    }
}
