/** Promise 17: follow. */
public final class Promise17FollowTest {
    private static final int LOG = Desk.LOG;

    public static void main(String[] args) {
        Check.run(Promise17FollowTest.class);
    }

    static void promise17_0Rows_areNone() {
        Desk d = Desk.withRows(5);
        Check.due("follow(0, 0)", d.follow(0, 0), 0);
        Check.due("mirrored(0)", d.mirrored(0), 0);
        d.follow(0, 2);
        Check.due("follow(0, 0)", d.follow(0, 0), 0);
        Check.due("mirrored(0)", d.mirrored(0), d.head(2));
    }

    static void promise17_minus1Rows_isNone() {
        Desk d = Desk.withRows(5);
        Check.due("follow(0, -1)", d.follow(0, -1), -1);
        Check.due("mirrored(0)", d.mirrored(0), 0);
        d.follow(0, 2);
        Check.due("follow(0, -1)", d.follow(0, -1), -1);
        Check.due("mirrored(0)", d.mirrored(0), d.head(2));
    }

    static void promise17_theLeastNumberOfRows_isNone() {
        Desk d = Desk.withRows(5);
        d.follow(0, 2);
        Check.due("follow(0, least)", d.follow(0, Desk.LEAST), -1);
        Check.due("mirrored(0)", d.mirrored(0), d.head(2));
    }

    static void promise17_1Row_isCopied() {
        Desk d = Desk.withRows(5);
        Check.due("follow(0, 1)", d.follow(0, 1), 1);
        Check.due("mirrored(0)", d.mirrored(0), d.digest(0));
    }

    static void promise17_fewerRowsThanThereAre_areCopied() {
        Desk d = Desk.withRows(5);
        Check.due("follow(0, 4)", d.follow(0, 4), 4);
        Check.due("mirrored(0)", d.mirrored(0), d.head(4));
    }

    static void promise17_justAsManyRowsAsThereAre_areCopied() {
        Desk d = Desk.withRows(5);
        Check.due("follow(0, 5)", d.follow(0, 5), 5);
        Check.due("mirrored(0)", d.mirrored(0), d.head(5));
    }

    static void promise17_moreRowsThanThereAre_areAsManyAsThereAre() {
        Desk d = Desk.withRows(5);
        Check.due("follow(0, 6)", d.follow(0, 6), 5);
        Check.due("mirrored(0)", d.mirrored(0), d.head(5));
    }

    static void promise17_theGreatestNumberOfRows_isAsManyAsThereAre() {
        Desk d = Desk.withRows(5);
        d.follow(0, 2);
        Check.due("follow(0, greatest)", d.follow(0, Desk.GREATEST), 3);
        Check.due("mirrored(0)", d.mirrored(0), d.head(5));
    }

    static void promise17_rowsMore_comeBehindThoseThatAreThere() {
        Desk d = Desk.withRows(5);
        Check.due("follow(0, 2)", d.follow(0, 2), 2);
        Check.due("follow(0, 2)", d.follow(0, 2), 2);
        Check.due("mirrored(0)", d.mirrored(0), d.head(4));
        Check.due("follow(0, 2)", d.follow(0, 2), 1);
        Check.due("mirrored(0)", d.mirrored(0), d.head(5));
        Check.due("follow(0, 2)", d.follow(0, 2), 0);
        Check.due("mirrored(0)", d.mirrored(0), d.head(5));
    }

    static void promise17_anEmptyLog_hasNoRowsToCopy() {
        Desk d = new Desk();
        Check.due("follow(0, 1)", d.follow(0, 1), 0);
        Check.due("follow(0, greatest)", d.follow(0, Desk.GREATEST), 0);
        Check.due("mirrored(0)", d.mirrored(0), 0);
    }

    static void promise17_aFullLog_isCopiedWhole() {
        Desk d = Desk.withRows(120);
        Check.due("follow(3, 119)", d.follow(3, 119), 119);
        Check.due("mirrored(3)", d.mirrored(3), d.head(119));
        Check.due("follow(3, 121)", d.follow(3, 121), 1);
        Check.due("mirrored(3)", d.mirrored(3), d.head(120));
        Check.due("follow(3, 1)", d.follow(3, 1), 0);
        Check.due("follow(2, 120)", d.follow(2, 120), 120);
        Check.due("mirrored(2)", d.mirrored(2), d.head(120));
    }

    static void promise17_mirror0_follows() {
        Desk d = Desk.withRows(5);
        Check.due("follow(0, 3)", d.follow(0, 3), 3);
    }

    static void promise17_mirror3_follows() {
        Desk d = Desk.withRows(5);
        Check.due("follow(3, 3)", d.follow(3, 3), 3);
    }

    static void promise17_mirrorMinus1_isNone() {
        Desk d = Desk.withRows(5);
        d.refused(d.seen(), "follow(-1, 3)", d.follow(-1, 3), -1);
        d.refused(d.seen(), "follow(-1, 0)", d.follow(-1, 0), -1);
    }

    static void promise17_mirror4_isNone() {
        Desk d = Desk.withRows(5);
        d.refused(d.seen(), "follow(4, 3)", d.follow(4, 3), -1);
        d.refused(d.seen(), "follow(4, 0)", d.follow(4, 0), -1);
        d.refused(d.seen(), "follow(4, -1)", d.follow(4, -1), -1);
    }

    static void promise17_mirrorsFarOut_areNone() {
        Desk d = Desk.withRows(5);
        String before = d.seen();
        for (int mirror : Desk.FAR_OUT) {
            Check.due("follow(" + mirror + ", 3)", d.follow(mirror, 3), -1);
        }
        Check.due("what is seen", d.seen(), before);
    }

    static void promise17_eachMirror_followsByItself() {
        Desk d = Desk.withRows(5);
        for (int mirror = 0; mirror < 4; mirror++) {
            Check.due("follow(" + mirror + ")", d.follow(mirror, mirror + 1), mirror + 1);
        }
        for (int mirror = 0; mirror < 4; mirror++) {
            Check.due("mirrored(" + mirror + ")", d.mirrored(mirror), d.head(mirror + 1));
        }
    }

    static void promise17_rowsThatComeLater_areNotCopiedByThemselves() {
        Desk d = Desk.withRows(5);
        d.follow(0, 9);
        d.publish("a", 0, 900, 0);
        Check.due("mirrored(0)", d.mirrored(0), d.head(5));
        Check.due("follow(0, 9)", d.follow(0, 9), 1);
        Check.due("mirrored(0)", d.mirrored(0), d.head(6));
    }

    static void promise17_eachKind_isCopied() {
        Desk d = Desk.withCore();
        d.yank("core", 0, 1, true);
        d.grant("core", 0, 5, true);
        d.move("core>kernel", 0);
        Check.due("follow(1, 4)", d.follow(1, 4), 4);
        Check.due("mirrored(1)", d.mirrored(1), d.head(4));
        Check.due("founder", d.founder("kernel", 1), 0);
        Check.due("has", d.has("kernel", 1, 5), true);
        Check.due("version", d.version("kernel", 1, 1), 2);
        Check.due("sum", d.sum("kernel", 1, 1), 11);
    }

    static void promise17_behindASpoiltRow_rowsAreCopiedAsTheLogHasThem() {
        Desk d = Desk.withRows(5);
        d.follow(0, 2);
        d.spoil(0, 1, 77);
        Check.due("follow(0, 3)", d.follow(0, 3), 3);
        Check.due("the spoilt one stays so", d.sum("a", 0, 1), 77);
        Check.due("the next one", d.sum("a", 0, 2), 102);
        Check.due("the last one", d.sum("a", 0, 4), 104);
    }

    static void promise17_whatAnotherMirrorSpoilt_isNotCopied() {
        Desk d = Desk.withRows(5);
        d.follow(0, 5);
        d.spoil(0, 1, 77);
        d.follow(1, 5);
        Check.due("sum in 1", d.sum("a", 1, 1), 101);
        Check.due("sum in the log", d.sum("a", LOG, 1), 101);
    }
}
