/** Promises 21 to 24: founder, has, version and sum, by the log's and by a mirror's rows. */
public final class StateTest {
    private static final Check CHECK = new Check("StateTest");
    private static final int LOG = Desk.LOG;
    private static final int[] NO_MIRROR = {-2, 4, Integer.MIN_VALUE, Integer.MAX_VALUE};
    private static final String[] NO_NAME = {"", "-", "core-", "core>kernel", "Core", "core "};

    public static void main(String[] args) {
        founders();
        rights();
        versions();
        sums();
        mirrorsBehind();
        textIsTaken();
        CHECK.end();
    }

    private static Desk core() {
        Desk d = new Desk();
        d.publish("core", 6, 4, -44);
        d.publish("core", 6, 0, 40);
        d.grant("core", 6, 7, true);
        d.yank("core", 7, 4, true);
        d.x.follow(3, 4);
        return d;
    }

    private static void founders() {
        Desk d = core();
        CHECK.due("founder", d.founder("core", LOG), 6);
        CHECK.due("founder by a mirror", d.founder("core", 3), 6);
        CHECK.due("founder by a mirror without rows", d.founder("core", 0), -1);
        CHECK.due("founder not KNOWN", d.founder("kernel", LOG), -1);
        CHECK.due("founder of a NEAR one", d.founder("c-ore", LOG), -1);
        for (int mirror : NO_MIRROR) {
            CHECK.due("founder(" + mirror + ")", d.founder("core", mirror), -1);
        }
        for (String text : NO_NAME) {
            CHECK.due("founder of '" + text + "'", d.founder(text, LOG), -1);
        }
        d.publish("core", 7, 5, 5);
        CHECK.due("who publishes later is none", d.founder("core", LOG), 6);
        d.move("core>kernel", 6);
        CHECK.due("founder of a GONE one", d.founder("core", LOG), -1);
        CHECK.due("founder of the other one", d.founder("kernel", LOG), 6);
        d.publish("mantle", 0, 0, 0);
        CHECK.due("founder 0", d.founder("mantle", LOG), 0);
    }

    private static void rights() {
        Desk d = core();
        for (int person = 0; person < 8; person++) {
            CHECK.due("has " + person, d.has("core", LOG, person), person >= 6);
            CHECK.due("has by a mirror " + person, d.has("core", 3, person), person >= 6);
            CHECK.due("has by an empty mirror " + person, d.has("core", 1, person), false);
            CHECK.due("has, not KNOWN " + person, d.has("kernel", LOG, person), false);
        }
        for (int person : new int[] {-1, 8, Integer.MIN_VALUE, Integer.MAX_VALUE}) {
            CHECK.due("has " + person, d.has("core", LOG, person), false);
            CHECK.due("has, not KNOWN " + person, d.has("kernel", LOG, person), false);
        }
        for (int mirror : NO_MIRROR) {
            CHECK.due("has(" + mirror + ", 6)", d.has("core", mirror, 6), false);
        }
        for (String text : NO_NAME) {
            CHECK.due("has of '" + text + "'", d.has(text, LOG, 6), false);
        }
        d.move("core>kernel", 6);
        CHECK.due("has of a GONE one", d.has("core", LOG, 6), false);
        CHECK.due("has of the other one", d.has("kernel", LOG, 7), true);
        d.grant("kernel", 6, 7, false);
        CHECK.due("taken away after the MOVE", d.has("kernel", LOG, 7), false);
        CHECK.due("the FOUNDER keeps it", d.has("kernel", LOG, 6), true);
    }

    private static void versions() {
        Desk d = core();
        CHECK.due("version 4", d.version("core", LOG, 4), 2);
        CHECK.due("version 0", d.version("core", LOG, 0), 1);
        CHECK.due("version 1", d.version("core", LOG, 1), 0);
        CHECK.due("version by a mirror", d.version("core", 3, 4), 2);
        CHECK.due("version by an empty mirror", d.version("core", 2, 4), 0);
        for (int version : new int[] {-1, 1000, Integer.MIN_VALUE, Integer.MAX_VALUE}) {
            CHECK.due("version " + version, d.version("core", LOG, version), 0);
            CHECK.due("version " + version, d.version("kernel", LOG, version), 0);
        }
        for (int mirror : NO_MIRROR) {
            CHECK.due("version(" + mirror + ", 4)", d.version("core", mirror, 4), 0);
        }
        for (String text : NO_NAME) {
            CHECK.due("version of '" + text + "'", d.version(text, LOG, 4), 0);
        }
        d.move("core>kernel", 6);
        CHECK.due("version of a GONE one", d.version("core", LOG, 4), 0);
        CHECK.due("version of the other one", d.version("kernel", LOG, 4), 2);
        d.yank("kernel", 6, 4, false);
        CHECK.due("yanked no more", d.version("kernel", LOG, 4), 1);
        d.publish("mantle", 0, 9, 0);
        CHECK.due("a VERSION is of one NAME", d.version("kernel", LOG, 9), 0);
    }

    private static void sums() {
        Desk d = core();
        CHECK.due("sum of a yanked one", d.sum("core", LOG, 4), -44);
        CHECK.due("sum", d.sum("core", LOG, 0), 40);
        CHECK.due("sum not there", d.sum("core", LOG, 1), 0);
        CHECK.due("sum by a mirror", d.sum("core", 3, 4), -44);
        CHECK.due("sum by an empty mirror", d.sum("core", 0, 4), 0);
        d.x.spoil(3, 0, Integer.MIN_VALUE);
        CHECK.due("sum spoilt", d.sum("core", 3, 4), Integer.MIN_VALUE);
        CHECK.due("sum of the log", d.sum("core", LOG, 4), -44);
        for (int version : new int[] {-1, 1000, Integer.MIN_VALUE, Integer.MAX_VALUE}) {
            CHECK.due("sum " + version, d.sum("core", LOG, version), 0);
            CHECK.due("sum " + version, d.sum("kernel", LOG, version), 0);
        }
        for (int mirror : NO_MIRROR) {
            CHECK.due("sum(" + mirror + ", 4)", d.sum("core", mirror, 4), 0);
        }
        for (String text : NO_NAME) {
            CHECK.due("sum of '" + text + "'", d.sum(text, LOG, 4), 0);
        }
        d.move("core>kernel", 6);
        CHECK.due("sum of a GONE one", d.sum("core", LOG, 4), 0);
        CHECK.due("sum of the other one", d.sum("kernel", LOG, 4), -44);
    }

    private static void mirrorsBehind() {
        Desk d = core();
        d.move("core>kernel", 6);
        CHECK.due("before the MOVE", d.founder("core", 3), 6);
        CHECK.due("the other one isn't KNOWN yet", d.founder("kernel", 3), -1);
        d.x.follow(3, 1);
        CHECK.due("behind the MOVE", d.founder("core", 3), -1);
        CHECK.due("the other one is", d.founder("kernel", 3), 6);
        d.x.follow(0, 1);
        CHECK.due("one row: the VERSION", d.version("core", 0, 4), 1);
        CHECK.due("one row: no second VERSION", d.version("core", 0, 0), 0);
        CHECK.due("one row: no GRANT", d.has("core", 0, 7), false);
        d.x.follow(0, 2);
        CHECK.due("three rows: the GRANT", d.has("core", 0, 7), true);
        CHECK.due("three rows: no YANK", d.version("core", 0, 4), 1);
    }

    /** Each call that takes TEXT empties it, whatever else it answers. */
    private static void textIsTaken() {
        Desk d = core();
        for (int mirror : new int[] {LOG, 0, 3, 4, -2}) {
            d.founder("core", mirror);
            CHECK.due("TEXT after founder(" + mirror + ")", d.x.founder(LOG), -1);
            d.has("core", mirror, mirror);
            CHECK.due("TEXT after has(" + mirror + ")", d.x.founder(LOG), -1);
            d.version("core", mirror, -1);
            CHECK.due("TEXT after version(" + mirror + ")", d.x.founder(LOG), -1);
            d.sum("core", mirror, -1);
            CHECK.due("TEXT after sum(" + mirror + ")", d.x.founder(LOG), -1);
        }
        d.type("co");
        d.x.rows();
        d.x.follow(1, 1);
        d.x.head(1);
        d.x.take(1);
        d.x.isInside(0, 1, 0, 0);
        CHECK.due("other calls leave TEXT alone", d.founder("re", LOG), 6);
    }
}
