import java.util.ArrayList;
import java.util.List;

/** Promises 7 to 10: rows, row, digest, head. */
public final class ReadingTest {
    private static final Check CHECK = new Check("ReadingTest");

    public static void main(String[] args) {
        Desk d = new Desk();
        d.publish("co-re", 2, 999, -5);
        d.yank("co-re", 2, 999, true);
        d.yank("co-re", 2, 999, false);
        d.grant("co-re", 2, 7, true);
        d.grant("co-re", 2, 7, false);
        d.move("co-re>xyz", 2);
        rowsAndFields(d);
        digests(d);
        heads();
        CHECK.end();
    }

    private static void rowsAndFields(Desk d) {
        int[][] due = {
            {0, 2, 999, -5}, {1, 2, 999, 1}, {1, 2, 999, 0}, {2, 2, 7, 1}, {2, 2, 7, 0},
            {3, 2, -1, 0}
        };
        CHECK.due("rows", d.x.rows(), due.length);
        for (int i = 0; i < due.length; i++) {
            for (int what = 0; what < 4; what++) {
                CHECK.due("row(" + i + ", " + what + ")", d.x.row(i, what), due[i][what]);
            }
            CHECK.due("row what -1", d.x.row(i, -1), -1);
            CHECK.due("row what 4", d.x.row(i, 4), -1);
            CHECK.due("row what least", d.x.row(i, Integer.MIN_VALUE), -1);
        }
        for (int i : new int[] {-1, due.length, 119, 120, Integer.MIN_VALUE, Integer.MAX_VALUE}) {
            for (int what = 0; what < 5; what++) {
                CHECK.due("row(" + i + ", " + what + ")", d.x.row(i, what), -1);
            }
        }
        d.publish("xyz", 0, 0, 0);
        CHECK.due("a refused row doesn't count", d.x.rows(), due.length);
    }

    private static void digests(Desk d) {
        CHECK.due("digest of PUBLISH", d.x.digest(0),
                Model.mixAll(0, 2, 'c', 'o', '-', 'r', 'e', 256, 999, -5));
        CHECK.due("digest of YANK on", d.x.digest(1),
                Model.mixAll(1, 2, 'c', 'o', '-', 'r', 'e', 256, 999, 1));
        CHECK.due("digest of YANK off", d.x.digest(2),
                Model.mixAll(1, 2, 'c', 'o', '-', 'r', 'e', 256, 999, 0));
        CHECK.due("digest of GRANT on", d.x.digest(3),
                Model.mixAll(2, 2, 'c', 'o', '-', 'r', 'e', 256, 7, 1));
        CHECK.due("digest of GRANT off", d.x.digest(4),
                Model.mixAll(2, 2, 'c', 'o', '-', 'r', 'e', 256, 7, 0));
        CHECK.due("digest of MOVE", d.x.digest(5),
                Model.mixAll(3, 2, 'c', 'o', '-', 'r', 'e', 256, 'x', 'y', 'z'));
        for (int i : new int[] {-1, 6, 120, Integer.MIN_VALUE, Integer.MAX_VALUE}) {
            CHECK.due("digest(" + i + ")", d.x.digest(i), 0);
        }
        CHECK.due("a DIGEST worked out elsewhere",
                Desk.withVersions("pack", 1).x.digest(0), -4530223376094292543L);
    }

    private static void heads() {
        Desk d = Desk.withVersions("a", 120);
        List<Long> digests = new ArrayList<>();
        for (int n = 0; n <= 120; n++) {
            CHECK.due("head(" + n + ")", d.x.head(n), Model.headOf(digests));
            digests.add(d.x.digest(n));
        }
        for (int n : new int[] {-1, 121, Integer.MIN_VALUE, Integer.MAX_VALUE}) {
            CHECK.due("head(" + n + ")", d.x.head(n), 0);
        }
        RegistryLog x = Desk.withVersions("pack", 9).x;
        CHECK.due("head(9)", x.head(9), -1422487117597013930L);
        CHECK.due("head(10) of 9", x.head(10), 0);
        long join12 = Model.join(x.digest(0), x.digest(1));
        CHECK.due("head(2)", x.head(2), join12);
        CHECK.due("head(3)", x.head(3), Model.join(join12, x.digest(2)));
    }
}
