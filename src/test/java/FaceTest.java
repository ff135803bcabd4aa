import java.lang.reflect.Constructor;
import java.lang.reflect.Field;
import java.lang.reflect.Method;
import java.lang.reflect.Modifier;
import java.util.Arrays;
import java.util.Set;
import java.util.TreeSet;

/** The public face is the document's and no more; of the rest nothing is seen from outside. */
public final class FaceTest {
    private static final String[] METHODS = {
        "boolean type(char)",
        "int publish(int,int,int)",
        "int yank(int,int,boolean)",
        "int grant(int,int,boolean)",
        "int move(int)",
        "int rows()",
        "int row(int,int)",
        "long digest(int)",
        "long head(int)",
        "int inside(int,int)",
        "int growth(int,int)",
        "long proof(int)",
        "boolean take(long)",
        "boolean isInside(int,int,long,long)",
        "boolean isGrowth(int,int,long,long)",
        "int follow(int,int)",
        "boolean spoil(int,int,int)",
        "long mirrored(int)",
        "int apart(int)",
        "int founder(int)",
        "boolean has(int,int)",
        "int version(int,int)",
        "int sum(int,int)"
    };

    public static void main(String[] args) {
        Check.run(FaceTest.class);
    }

    static void face_theClass_isPublicAndFinal() {
        Check.due("modifiers", RegistryLog.class.getModifiers(),
                Modifier.PUBLIC | Modifier.FINAL);
    }

    static void face_none_isMinus1() {
        Check.due("NONE", RegistryLog.NONE, -1);
    }

    static void face_methods_areTheDocumentsAlone() {
        Check.due("the methods", seenMethods(), sorted(METHODS));
    }

    static void face_declaredExceptions_areTheDocumentsAlone() {
        Set<String> writers = Set.of("publish", "yank", "grant", "move");
        for (Method m : RegistryLog.class.getDeclaredMethods()) {
            if (Modifier.isPublic(m.getModifiers())) {
                Class<?>[] due = writers.contains(m.getName())
                        ? new Class<?>[] {
                            IllegalArgumentException.class, IllegalStateException.class}
                        : new Class<?>[0];
                Check.due("what " + m.getName() + " declares",
                        Arrays.toString(m.getExceptionTypes()), Arrays.toString(due));
            }
        }
    }

    static void face_fields_areTheDocumentsAlone() {
        Check.due("the fields", seenFields(), "[public static final int RegistryLog.NONE]");
    }

    static void face_constructors_areTheDocumentsAlone() {
        Constructor<?>[] made = RegistryLog.class.getDeclaredConstructors();
        Check.due("how many constructors", made.length, 1);
        Check.due("the constructor", made[0].toString(), "public RegistryLog()");
    }

    private static String sorted(String[] lines) {
        TreeSet<String> all = new TreeSet<>();
        for (String line : lines) {
            all.add(line);
        }
        return all.toString();
    }

    private static String seenMethods() {
        TreeSet<String> seen = new TreeSet<>();
        for (Method m : RegistryLog.class.getDeclaredMethods()) {
            if (!Modifier.isPrivate(m.getModifiers())) {
                StringBuilder line = new StringBuilder();
                line.append(m.getReturnType()).append(' ').append(m.getName()).append('(');
                for (Class<?> type : m.getParameterTypes()) {
                    line.append(line.charAt(line.length() - 1) == '(' ? "" : ",").append(type);
                }
                seen.add(line.append(')').toString());
            }
        }
        return seen.toString();
    }

    private static String seenFields() {
        TreeSet<String> seen = new TreeSet<>();
        for (Field f : RegistryLog.class.getDeclaredFields()) {
            if (!Modifier.isPrivate(f.getModifiers())) {
                seen.add(f.toString());
            }
        }
        return seen.toString();
    }
}
