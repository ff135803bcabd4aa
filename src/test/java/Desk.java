/** A RegistryLog whose TEXT is typed with the call, and whose exceptions are numbers. */
final class Desk {
    static final int ARGUMENT = -1001;
    static final int STATE = -1002;
    static final int LOG = RegistryLog.NONE;

    final RegistryLog x = new RegistryLog();

    void type(String text) {
        for (int i = 0; i < text.length(); i++) {
            x.type(text.charAt(i));
        }
    }

    int publish(String text, int person, int version, int sum) {
        type(text);
        try {
            return x.publish(person, version, sum);
        } catch (IllegalArgumentException e) {
            return ARGUMENT;
        } catch (IllegalStateException e) {
            return STATE;
        }
    }

    int yank(String text, int person, int version, boolean on) {
        type(text);
        try {
            return x.yank(person, version, on);
        } catch (IllegalArgumentException e) {
            return ARGUMENT;
        } catch (IllegalStateException e) {
            return STATE;
        }
    }

    int grant(String text, int person, int other, boolean on) {
        type(text);
        try {
            return x.grant(person, other, on);
        } catch (IllegalArgumentException e) {
            return ARGUMENT;
        } catch (IllegalStateException e) {
            return STATE;
        }
    }

    int move(String text, int person) {
        type(text);
        try {
            return x.move(person);
        } catch (IllegalArgumentException e) {
            return ARGUMENT;
        } catch (IllegalStateException e) {
            return STATE;
        }
    }

    int founder(String text, int mirror) {
        type(text);
        return x.founder(mirror);
    }

    boolean has(String text, int mirror, int person) {
        type(text);
        return x.has(mirror, person);
    }

    int version(String text, int mirror, int version) {
        type(text);
        return x.version(mirror, version);
    }

    int sum(String text, int mirror, int version) {
        type(text);
        return x.sum(mirror, version);
    }

    /** Publishes the VERSIONS 0 .. n - 1 of a new NAME, the SUM of each being its square. */
    static Desk withVersions(String name, int n) {
        Desk desk = new Desk();
        for (int i = 0; i < n; i++) {
            desk.publish(name, 0, i, i * i);
        }
        return desk;
    }
}
