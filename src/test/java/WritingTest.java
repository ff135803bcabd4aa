/** Promises 1 to 6: a new object, TEXT, and the four KINDS of rows. */
public final class WritingTest {
    private static final int A = Desk.ARGUMENT;
    private static final int S = Desk.STATE;
    private static final int LOG = Desk.LOG;
    private static final Check CHECK = new Check("WritingTest");

    public static void main(String[] args) {
        newObject();
        typing();
        names();
        publishing();
        nearNames();
        yanking();
        granting();
        moving();
        movedNames();
        fullLog();
        CHECK.end();
    }

    private static void newObject() {
        Desk d = new Desk();
        CHECK.due("new rows", d.x.rows(), 0);
        CHECK.due("new head(0)", d.x.head(0), 0);
        CHECK.due("new digest(0)", d.x.digest(0), 0);
        CHECK.due("new proof(0)", d.x.proof(0), 0);
        CHECK.due("new TEXT", d.publish("", 0, 0, 0), A);
        for (int mirror = 0; mirror < 4; mirror++) {
            CHECK.due("new mirrored", d.x.mirrored(mirror), 0);
            CHECK.due("new apart", d.x.apart(mirror), -1);
            CHECK.due("new spoil", d.x.spoil(mirror, 0, 1), false);
        }
        CHECK.due("new HAND", d.x.isInside(0, 1, 5, 5), true);
        Desk other = new Desk();
        d.publish("core", 0, 0, 0);
        CHECK.due("objects have nothing in common", other.x.rows(), 0);
    }

    private static void typing() {
        RegistryLog x = new RegistryLog();
        CHECK.due("type 31", x.type((char) 31), false);
        CHECK.due("type 127", x.type((char) 127), false);
        CHECK.due("type 0", x.type((char) 0), false);
        CHECK.due("type a letter above 255", x.type((char) (256 + 'a')), false);
        CHECK.due("type 65535", x.type((char) 65535), false);
        CHECK.due("type 32", x.type((char) 32), true);
        CHECK.due("type 126", x.type((char) 126), true);
        for (int i = 2; i < 24; i++) {
            CHECK.due("type number " + i, x.type('a'), true);
        }
        CHECK.due("type the 25th", x.type('a'), false);
        CHECK.due("founder of no NAME", x.founder(LOG), -1);
        CHECK.due("TEXT is empty then", x.type('a'), true);

        Desk d = new Desk();
        d.type("co\u007f\u001fr\u0165e");
        CHECK.due("what was refused is not in TEXT", d.publish("", 0, 0, 0), 0);
        d.type("aaaaaaaaaaaaaaaaaaaaaaaab");
        CHECK.due("24 are no NAME", d.publish("", 0, 0, 0), A);
        CHECK.due("TEXT is in its order", d.founder("core", LOG), 0);
    }

    private static void names() {
        String[] bad = {
            "", "-", "-a", "a-", "a--b", "Abc", "aBc", "a b", " a", "a ", "a1", "a_b", "a.b",
            "abcdefghijk", "a-b-c-d-e-f", "`a", "{a", "a>b", "~"
        };
        for (String name : bad) {
            CHECK.due("no NAME: '" + name + "'", new Desk().publish(name, 0, 0, 0), A);
            CHECK.due("yank '" + name + "'", new Desk().yank(name, 0, 0, true), A);
            CHECK.due("grant '" + name + "'", new Desk().grant(name, 0, 1, true), A);
            CHECK.due("move '" + name + "'>b", new Desk().move(name + ">bbb", 0), A);
            CHECK.due("move b>'" + name + "'", new Desk().move("bbb>" + name, 0), A);
        }
        for (String name : new String[] {"a", "z", "a-z", "abcdefghij", "a-b-c-d-ef", "zz"}) {
            CHECK.due("a NAME: " + name, new Desk().publish(name, 0, 0, 0), 0);
        }
    }

    private static void publishing() {
        Desk d = new Desk();
        CHECK.due("person -1", d.publish("core", -1, 0, 0), A);
        CHECK.due("person 8", d.publish("core", 8, 0, 0), A);
        CHECK.due("version -1", d.publish("core", 0, -1, 0), A);
        CHECK.due("version 1000", d.publish("core", 0, 1000, 0), A);
        CHECK.due("nothing came", d.x.rows(), 0);
        CHECK.due("person 7, version 999", d.publish("core", 7, 999, Integer.MIN_VALUE), 0);
        CHECK.due("version 0", d.publish("core", 7, 0, Integer.MAX_VALUE), 1);
        CHECK.due("version there", d.publish("core", 7, 0, 5), S);
        CHECK.due("no right", d.publish("core", 0, 1, 5), S);
        CHECK.due("no right, no version", d.publish("core", 0, 1000, 5), A);
        CHECK.due("yank", d.yank("core", 7, 0, true), 2);
        CHECK.due("a yanked version is there", d.publish("core", 7, 0, 5), S);
        CHECK.due("grant", d.grant("core", 7, 0, true), 3);
        CHECK.due("with the right", d.publish("core", 0, 1, 5), 4);
        CHECK.due("grant off", d.grant("core", 7, 0, false), 5);
        CHECK.due("without it", d.publish("core", 0, 2, 5), S);
        CHECK.due("another name", d.publish("kernel", 0, 0, 5), 6);
        d.publish("core", 0, 2, 5);
        CHECK.due("TEXT is empty after a refusal", d.publish("", 7, 3, 0), A);
        d.publish("core", 9, 2, 5);
        CHECK.due("TEXT is empty after a wrong person", d.publish("", 7, 3, 0), A);
        d.publish("core", 7, 3, 5);
        CHECK.due("TEXT is empty after a row", d.publish("", 7, 4, 0), A);
    }

    private static void nearNames() {
        String[][] near = {
            {"core", "c-ore"}, {"core", "core-s"}, {"core", "cor"}, {"core", "ore"},
            {"core", "cre"}, {"core", "care"}, {"core", "bore"}, {"core", "cord"},
            {"core", "xcore"}, {"core", "coxre"}, {"c-o-r-e", "cores"}, {"a", "b"}, {"a", "ab"},
            {"a", "b-a"}, {"aa", "a"}, {"aa", "aaa"}, {"a-a", "aa"}, {"abcdefghij", "abcdefghi"},
            {"abab", "aba"}, {"abcdefghij", "abcdefghix"}
        };
        for (String[] pair : near) {
            CHECK.due("near " + pair[0] + " " + pair[1], second(pair[0], pair[1]), S);
            CHECK.due("near " + pair[1] + " " + pair[0], second(pair[1], pair[0]), S);
        }
        String[][] far = {
            {"core", "coal"}, {"core", "co"}, {"core", "coresx"}, {"core", "ocre"},
            {"core", "erco"}, {"a", "bc"}, {"a", "bcd"}, {"ab", "ba"}, {"core", "orec"},
            {"core", "coer"}, {"abcd", "bcde"}, {"core", "xcorex"}, {"abcde", "axcye"},
            {"a-b", "c-d"}, {"aab", "baa"}, {"a", "aaa"}, {"a", "a-a-a"}, {"ab", "abab"},
            {"aaaaaaaaaa", "aaaaaaaa"}
        };
        for (String[] pair : far) {
            CHECK.due("far " + pair[0] + " " + pair[1], second(pair[0], pair[1]), 1);
            CHECK.due("far " + pair[1] + " " + pair[0], second(pair[1], pair[0]), 1);
        }
        Desk d = new Desk();
        d.publish("core", 0, 0, 0);
        d.publish("kernel", 0, 0, 0);
        CHECK.due("near the first of two", d.publish("cores", 0, 0, 0), S);
        CHECK.due("near the second of two", d.publish("kernels", 0, 0, 0), S);
    }

    private static int second(String first, String second) {
        Desk d = new Desk();
        d.publish(first, 0, 0, 0);
        return d.publish(second, 0, 0, 0);
    }

    private static void yanking() {
        Desk d = new Desk();
        CHECK.due("yank of a NAME not KNOWN", d.yank("core", 0, 0, true), S);
        d.publish("core", 0, 0, 0);
        CHECK.due("yank person -1", d.yank("core", -1, 0, true), A);
        CHECK.due("yank person 8", d.yank("core", 8, 0, true), A);
        CHECK.due("yank version -1", d.yank("core", 0, -1, true), A);
        CHECK.due("yank version 1000", d.yank("core", 0, 1000, true), A);
        CHECK.due("yank version not there", d.yank("core", 0, 1, true), S);
        CHECK.due("yank without the right", d.yank("core", 1, 0, true), S);
        CHECK.due("off that is off", d.yank("core", 0, 0, false), S);
        CHECK.due("yank on", d.yank("core", 0, 0, true), 1);
        CHECK.due("on that is on", d.yank("core", 0, 0, true), S);
        CHECK.due("yank off", d.yank("core", 0, 0, false), 2);
        CHECK.due("off that is off again", d.yank("core", 0, 0, false), S);
        CHECK.due("TEXT is empty after a refusal", d.yank("", 0, 0, true), A);
        d.grant("core", 0, 1, true);
        CHECK.due("yank with a right given", d.yank("core", 1, 0, true), 4);
        CHECK.due("a near NAME isn't the same", d.yank("c-ore", 0, 0, false), S);
    }

    private static void granting() {
        Desk d = new Desk();
        CHECK.due("grant of a NAME not KNOWN", d.grant("core", 0, 1, true), S);
        d.publish("core", 3, 0, 0);
        CHECK.due("grant person -1", d.grant("core", -1, 1, true), A);
        CHECK.due("grant person 8", d.grant("core", 8, 1, true), A);
        CHECK.due("grant other -1", d.grant("core", 3, -1, true), A);
        CHECK.due("grant other 8", d.grant("core", 3, 8, true), A);
        CHECK.due("not the FOUNDER", d.grant("core", 1, 2, true), S);
        CHECK.due("to the FOUNDER", d.grant("core", 3, 3, true), S);
        CHECK.due("from the FOUNDER", d.grant("core", 3, 3, false), S);
        CHECK.due("off that is off", d.grant("core", 3, 0, false), S);
        CHECK.due("grant on", d.grant("core", 3, 0, true), 1);
        CHECK.due("on that is on", d.grant("core", 3, 0, true), S);
        CHECK.due("the right gives no grant", d.grant("core", 0, 7, true), S);
        CHECK.due("grant to two", d.grant("core", 3, 7, true), 2);
        CHECK.due("the first keeps it", d.has("core", LOG, 0), true);
        CHECK.due("grant off", d.grant("core", 3, 0, false), 3);
        CHECK.due("the second keeps it", d.has("core", LOG, 7), true);
        CHECK.due("grant on again", d.grant("core", 3, 0, true), 4);
        d.publish("kernel", 1, 0, 0);
        CHECK.due("a right is of one NAME", d.publish("kernel", 0, 1, 0), S);
    }

    private static void moving() {
        Desk d = new Desk();
        CHECK.due("move of a NAME not KNOWN", d.move("core>kernel", 0), S);
        CHECK.due("move of it to itself", d.move("core>core", 0), S);
        d.publish("core", 0, 5, 50);
        d.publish("mantle", 1, 0, 0);
        CHECK.due("move person -1", d.move("core>kernel", -1), A);
        CHECK.due("move person 8", d.move("core>kernel", 8), A);
        for (String text : new String[] {
            "", "core", ">", "core>", ">kernel", "core>>kernel", "core>kernel>x", "core >kernel",
            "core> kernel", "core<kernel", ">core>kernel", "core>kernel>"
        }) {
            CHECK.due("move '" + text + "'", d.move(text, 0), A);
        }
        CHECK.due("not the FOUNDER", d.move("core>kernel", 1), S);
        d.grant("core", 0, 1, true);
        CHECK.due("the right is not enough", d.move("core>kernel", 1), S);
        CHECK.due("to the same", d.move("core>core", 0), S);
        CHECK.due("to a KNOWN one", d.move("core>mantle", 0), S);
        CHECK.due("to one NEAR another", d.move("core>mantles", 0), S);
        CHECK.due("to one NEAR itself", d.move("core>c-ore", 0), 3);
        CHECK.due("TEXT is empty then", d.move("", 0), A);
        CHECK.due("a new one NEAR the moved one", d.publish("care", 5, 0, 0), S);
        CHECK.due("to a far one", d.move("c-ore>abcdefghij", 0), 4);
        CHECK.due("to a GONE one", d.move("abcdefghij>core", 0), S);
        CHECK.due("longest TEXT", d.move("abcdefghij>klmnopqrst", 0), 5);
    }

    private static void movedNames() {
        Desk d = new Desk();
        d.publish("core", 0, 5, 50);
        d.publish("core", 0, 6, 60);
        d.grant("core", 0, 1, true);
        d.yank("core", 1, 6, true);
        d.move("core>kernel", 0);
        CHECK.due("publish of a GONE one", d.publish("core", 0, 7, 0), S);
        CHECK.due("publish of a GONE one by another", d.publish("core", 2, 7, 0), S);
        CHECK.due("yank of a GONE one", d.yank("core", 0, 5, true), S);
        CHECK.due("grant of a GONE one", d.grant("core", 0, 2, true), S);
        CHECK.due("move of a GONE one", d.move("core>zebra", 0), S);
        CHECK.due("nothing is NEAR a GONE one", d.publish("cores", 2, 0, 0), 5);
        CHECK.due("the VERSION came along", d.publish("kernel", 0, 5, 0), S);
        CHECK.due("the right came along", d.publish("kernel", 1, 7, 70), 6);
        CHECK.due("the yank came along", d.yank("kernel", 1, 6, true), S);
        CHECK.due("and can be taken back", d.yank("kernel", 1, 6, false), 7);
        CHECK.due("the FOUNDER came along", d.grant("kernel", 0, 1, false), 8);
        CHECK.due("the mover is no new FOUNDER", d.founder("kernel", LOG), 0);
        CHECK.due("NEAR the new NAME", d.publish("kernels", 3, 0, 0), S);
        CHECK.due("moved on", d.move("kernel>zebra", 0), 9);
        CHECK.due("moved on, all came along", d.sum("zebra", LOG, 7), 70);
        CHECK.due("the middle one is GONE", d.move("zebra>kernel", 0), S);
        CHECK.due("the first one is GONE", d.move("zebra>core", 0), S);
        CHECK.due("NEAR a KNOWN one, though beside its own", d.move("zebra>coresx", 0), S);
        CHECK.due("a near name of a GONE one", d.publish("kernels", 3, 0, 0), 10);
    }

    private static void fullLog() {
        Desk d = Desk.withVersions("a", 119);
        CHECK.due("the last row", d.publish("a", 0, 500, 0), 119);
        CHECK.due("no row more", d.publish("a", 0, 501, 0), S);
        CHECK.due("no NAME comes first", d.publish("-", 0, 501, 0), A);
        CHECK.due("no yank more", d.yank("a", 0, 500, true), S);
        CHECK.due("no grant more", d.grant("a", 0, 1, true), S);
        CHECK.due("no move more", d.move("a>core", 0), S);
        CHECK.due("no new NAME more", d.publish("core", 0, 0, 0), S);
        CHECK.due("a wrong person comes first", d.yank("a", 8, 500, true), A);
        CHECK.due("rows", d.x.rows(), 120);
        CHECK.due("still not moved", d.founder("a", LOG), 0);
    }
}
