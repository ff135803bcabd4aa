/** Promise 7: rows. */
public final class Promise07RowsTest {
    public static void main(String[] args) {
        Check.run(Promise07RowsTest.class);
    }

    static void promise07_anEmptyLog_hasNone() {
        Check.due("rows", new Desk().rows(), 0);
    }

    static void promise07_eachKind_countsOne() {
        Desk d = Desk.withCore();
        Check.due("rows behind PUBLISH", d.rows(), 1);
        d.yank("core", 0, 1, true);
        Check.due("rows behind YANK", d.rows(), 2);
        d.grant("core", 0, 1, true);
        Check.due("rows behind GRANT", d.rows(), 3);
        d.move("core>kernel", 0);
        Check.due("rows behind MOVE", d.rows(), 4);
    }

    static void promise07_refusedCalls_countNothing() {
        Desk d = Desk.withCore();
        d.publish("core", 8, 2, 0);
        d.publish("core", 0, 1, 0);
        d.yank("core", 0, 1, false);
        d.grant("core", 0, 0, true);
        d.move("core>core", 0);
        d.move("core", 0);
        Check.due("rows", d.rows(), 1);
    }

    static void promise07_mirrors_countNothing() {
        Desk d = Desk.withCore();
        d.follow(0, 1);
        d.follow(3, 1);
        d.spoil(0, 0, 5);
        Check.due("rows", d.rows(), 1);
    }

    static void promise07_eachLengthUpTo120_isCounted() {
        Desk d = new Desk();
        for (int n = 1; n <= 120; n++) {
            d.publish("a", 0, n, 0);
            Check.due("rows", d.rows(), n);
        }
    }

    static void promise07_aFullLog_stays120() {
        Desk d = Desk.withRows(120);
        Check.due("rows", d.rows(), 120);
        d.publish("a", 0, 999, 0);
        d.yank("a", 0, 0, true);
        d.grant("a", 0, 1, true);
        d.move("a>core", 0);
        Check.due("rows", d.rows(), 120);
    }
}
