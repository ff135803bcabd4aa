/** Promises 17 to 20: mirrors follow, are spoilt, and are told where they went another way. */
public final class MirrorTest {
    private static final Check CHECK = new Check("MirrorTest");
    private static final int[] NO_MIRROR = {-1, 4, 5, Integer.MIN_VALUE, Integer.MAX_VALUE};

    public static void main(String[] args) {
        following();
        spoiling();
        otherKinds();
        apartAtEachRow();
        noMirror();
        CHECK.end();
    }

    private static void following() {
        Desk d = Desk.withVersions("pack", 9);
        RegistryLog x = d.x;
        CHECK.due("follow none", x.follow(3, 0), 0);
        CHECK.due("follow -1 rows", x.follow(3, -1), -1);
        CHECK.due("follow the least", x.follow(3, Integer.MIN_VALUE), -1);
        CHECK.due("nothing came", x.mirrored(3), 0);
        CHECK.due("follow 5", x.follow(3, 5), 5);
        CHECK.due("mirrored", x.mirrored(3), x.head(5));
        CHECK.due("a shorter mirror isn't apart", x.apart(3), -1);
        CHECK.due("another mirror has none", x.mirrored(2), 0);
        CHECK.due("follow the greatest", x.follow(3, Integer.MAX_VALUE), 4);
        CHECK.due("mirrored", x.mirrored(3), x.head(9));
        CHECK.due("follow no more", x.follow(3, 1), 0);
        d.publish("pack", 0, 100, 1);
        CHECK.due("a mirror doesn't follow by itself", x.mirrored(3), x.head(9));
        CHECK.due("follow the new one", x.follow(3, 7), 1);
        CHECK.due("mirrored", x.mirrored(3), x.head(10));
        CHECK.due("mirror 0 follows too", x.follow(0, 1), 1);
        CHECK.due("mirrored", x.mirrored(0), x.digest(0));

        RegistryLog full = Desk.withVersions("a", 120).x;
        CHECK.due("follow all", full.follow(1, 121), 120);
        CHECK.due("mirrored all", full.mirrored(1), full.head(120));
    }

    private static void spoiling() {
        Desk d = Desk.withVersions("pack", 6);
        RegistryLog x = d.x;
        long head = x.head(6);
        x.follow(0, 4);
        x.follow(1, 4);
        CHECK.due("spoil a row not copied", x.spoil(0, 4, 1), false);
        CHECK.due("spoil row -1", x.spoil(0, -1, 1), false);
        CHECK.due("spoil row greatest", x.spoil(0, Integer.MAX_VALUE, 1), false);
        CHECK.due("spoil row least", x.spoil(0, Integer.MIN_VALUE, 1), false);
        CHECK.due("spoil row 3", x.spoil(0, 3, -77), true);
        long row3 = Model.mixAll(0, 0, 'p', 'a', 'c', 'k', 256, 3, -77);
        CHECK.due("mirrored", x.mirrored(0),
                Model.join(x.head(2), Model.join(x.digest(2), row3)));
        CHECK.due("apart", x.apart(0), 4);
        CHECK.due("the log stays", x.head(6), head);
        CHECK.due("the log's row stays", x.row(3, 3), 9);
        CHECK.due("another mirror stays", x.apart(1), -1);
        CHECK.due("follow on", x.follow(0, 9), 2);
        CHECK.due("still apart", x.apart(0), 4);
        CHECK.due("what comes later isn't spoilt", d.sum("pack", 0, 5), 25);
        CHECK.due("spoil row 1", x.spoil(0, 1, 77), true);
        CHECK.due("the first of two", x.apart(0), 2);
        CHECK.due("mend row 1", x.spoil(0, 1, 1), true);
        CHECK.due("apart at the other again", x.apart(0), 4);
        CHECK.due("mend row 3", x.spoil(0, 3, 9), true);
        CHECK.due("not apart", x.apart(0), -1);
        CHECK.due("mirrored as the log", x.mirrored(0), head);
        CHECK.due("spoil with the same", x.spoil(0, 3, 9), true);
        CHECK.due("not apart by that", x.apart(0), -1);
        CHECK.due("spoil the first row", x.spoil(0, 0, 5), true);
        CHECK.due("apart at the first", x.apart(0), 1);
    }

    private static void otherKinds() {
        Desk d = new Desk();
        d.publish("core", 0, 0, 0);
        d.yank("core", 0, 0, true);
        d.grant("core", 0, 1, true);
        d.move("core>kernel", 0);
        d.publish("kernel", 0, 1, 10);
        d.x.follow(2, 5);
        CHECK.due("spoil a YANK", d.x.spoil(2, 1, 9), false);
        CHECK.due("spoil a GRANT", d.x.spoil(2, 2, 9), false);
        CHECK.due("spoil a MOVE", d.x.spoil(2, 3, 9), false);
        CHECK.due("not apart", d.x.apart(2), -1);
        CHECK.due("spoil a PUBLISH", d.x.spoil(2, 4, 9), true);
        CHECK.due("apart", d.x.apart(2), 5);
        CHECK.due("its sum", d.sum("kernel", 2, 1), 9);
        CHECK.due("the other sum", d.sum("kernel", 2, 0), 0);
        d.x.spoil(2, 0, 8);
        CHECK.due("a SUM spoilt before the MOVE", d.sum("kernel", 2, 0), 8);
        CHECK.due("the yank stays", d.version("kernel", 2, 0), 2);
        CHECK.due("the log's sum", d.sum("kernel", Desk.LOG, 0), 0);
    }

    private static void apartAtEachRow() {
        RegistryLog x = Desk.withVersions("a", 33).x;
        x.follow(0, 33);
        for (int i = 32; i >= 0; i--) {
            x.spoil(0, i, -1);
            CHECK.due("apart at " + i, x.apart(0), i + 1);
        }
    }

    private static void noMirror() {
        RegistryLog x = Desk.withVersions("pack", 3).x;
        for (int mirror : NO_MIRROR) {
            CHECK.due("follow(" + mirror + ", 1)", x.follow(mirror, 1), -1);
            CHECK.due("follow(" + mirror + ", 0)", x.follow(mirror, 0), -1);
            CHECK.due("spoil(" + mirror + ", 0, 1)", x.spoil(mirror, 0, 1), false);
            CHECK.due("mirrored(" + mirror + ")", x.mirrored(mirror), 0);
            CHECK.due("apart(" + mirror + ")", x.apart(mirror), -1);
        }
        CHECK.due("the log isn't spoilt", x.row(0, 3), 0);
    }
}
