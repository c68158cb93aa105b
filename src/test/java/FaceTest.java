import java.lang.reflect.Constructor;
import java.lang.reflect.Field;
import java.lang.reflect.Member;
import java.lang.reflect.Method;
import java.lang.reflect.Modifier;
import java.util.Set;
import java.util.StringJoiner;
import java.util.TreeSet;

/** The public face is the document's and no more, and the classes inside keep to LANGUAGE.md's rules 1, 5 and 11. */
final class FaceTest {
    /** As the document has it; behind the parameters A is IllegalArgumentException, S is IllegalStateException. */
    private static final String[] FACE = {
        "int NONE", "int MISMATCH", "int MATCH", "int SILENT",
        "void code(int, int) A S", "void house(int, int) A S", "boolean contract(int, int, int) A",
        "int write(int, int, int) A S", "boolean file(int, int, boolean) A S", "int seal(int) A S", "int push(int) A S",
        "boolean up(int, boolean) A", "void loseDisk(int) A", "boolean harm(int, int, int, int, int) A",
        "boolean recover(int) A", "int sample(int, int, int) A S", "int audit(int) A S", "int repair(int) A S",
        "int restore(int, int, int) A S", "int restored(int)", "int forget(int, int) A S", "int health(int, int) A",
        "int keeper(int, int, int) A", "int count(int, int) A", "int stored(int, int) A", "void settle(int) A",
        "int balance(int, int) A"
    };

    private FaceTest() {
    }

    public static void main(String[] args) {
        Set<String> open = new TreeSet<>();
        Set<String> names = new TreeSet<>();
        for (Field field : FriendBackup.class.getDeclaredFields()) {
            if (isOpen(field)) {
                open.add(field.getType() + " " + field.getName());
                int constant = Modifier.PUBLIC | Modifier.STATIC | Modifier.FINAL;
                Check.due(field.getName() + " is a public constant", field.getModifiers(), constant);
            }
        }
        for (Method method : FriendBackup.class.getDeclaredMethods()) {
            if (isOpen(method)) {
                open.add(signature(method));
                names.add(method.getName());
                Check.due(method.getName() + " is public and no more", method.getModifiers(), Modifier.PUBLIC);
            }
        }
        Check.due("the face " + open, open.equals(Set.of(FACE)), true);
        Check.due("constructors", FriendBackup.class.getDeclaredConstructors().length, 1);
        Constructor<?> constructor = FriendBackup.class.getDeclaredConstructors()[0];
        Check.due("its parameters", constructor.getParameterCount(), 0);
        Check.due("it is public", Modifier.isPublic(constructor.getModifiers()), true);
        Check.due("public and final", FriendBackup.class.getModifiers(), Modifier.PUBLIC | Modifier.FINAL);
        Check.due("NONE", FriendBackup.NONE, -1);
        Check.due("MISMATCH", FriendBackup.MISMATCH, 0);
        Check.due("MATCH", FriendBackup.MATCH, 1);
        Check.due("SILENT", FriendBackup.SILENT, 2);
        inside(FriendBackup.class, names);
        Class<?>[] classes = FriendBackup.class.getDeclaredClasses();
        Check.due("at most twelve classes", classes.length <= 12, true);
        for (Class<?> type : classes) {
            Check.due(type + " is static", Modifier.isStatic(type.getModifiers()), true);
            Check.due(type + " is not public", Modifier.isPublic(type.getModifiers()), false);
            inside(type, names);
        }
        Check.end();
    }

    private static boolean isOpen(Member member) {
        return !Modifier.isPrivate(member.getModifiers());
    }

    private static String signature(Method method) {
        StringJoiner text = new StringJoiner(", ", method.getReturnType() + " " + method.getName() + "(", ")");
        for (Class<?> type : method.getParameterTypes()) {
            text.add(type.toString());
        }
        return text + thrown(method.getExceptionTypes());
    }

    private static String thrown(Class<?>[] types) {
        StringBuilder text = new StringBuilder();
        for (Class<?> type : types) {
            String letter = type == IllegalArgumentException.class ? "A" : type.getName();
            text.append(' ').append(type == IllegalStateException.class ? "S" : letter);
        }
        return text.toString();
    }

    private static void inside(Class<?> type, Set<String> faceNames) {
        int fields = 0;
        for (Field field : type.getDeclaredFields()) {
            boolean isStatic = Modifier.isStatic(field.getModifiers());
            fields += isStatic ? 0 : 1;
            Check.due(field + " is final if static", !isStatic || Modifier.isFinal(field.getModifiers()), true);
        }
        Check.due(type + " has some twenty fields at most", fields <= 20, true);
        for (Method method : type.getDeclaredMethods()) {
            boolean ownName = isOpen(method) || !faceNames.contains(method.getName());
            Check.due(method + " bears a name of its own if private", ownName, true);
            Check.due(method + " has seven parameters at most", method.getParameterCount() <= 7, true);
        }
    }
}
