import java.lang.reflect.Constructor;
import java.lang.reflect.Field;
import java.lang.reflect.Member;
import java.lang.reflect.Method;
import java.lang.reflect.Modifier;
import java.util.Set;
import java.util.TreeSet;

/** The public face is the document's and no more, and the classes inside keep to LANGUAGE.md's rules 1, 5 and 11. */
final class FaceTest {
    private static final String[] FACE = {
        "NONE", "MISMATCH", "MATCH", "SILENT",
        "void code int int", "void house int int", "boolean contract int int int", "int write int int int",
        "boolean file int int boolean", "int seal int", "int push int", "boolean up int boolean", "void loseDisk int",
        "boolean harm int int int int int", "boolean recover int", "int sample int int int", "int audit int",
        "int repair int", "int restore int int int", "int restored int", "int forget int int", "int health int int",
        "int keeper int int int", "int count int int", "int stored int int", "void settle int", "int balance int int"
    };

    private FaceTest() {
    }

    public static void main(String[] args) {
        Set<String> open = new TreeSet<>();
        Set<String> names = new TreeSet<>();
        for (Field field : FriendBackup.class.getDeclaredFields()) {
            if (isOpen(field)) {
                open.add(field.getName());
            }
        }
        for (Method method : FriendBackup.class.getDeclaredMethods()) {
            if (isOpen(method)) {
                open.add(signature(method));
                names.add(method.getName());
                Check.due(method.getName() + " is public", Modifier.isPublic(method.getModifiers()), true);
            }
        }
        Check.due("the face " + open, open.equals(Set.of(FACE)), true);
        Check.due("constructors", FriendBackup.class.getDeclaredConstructors().length, 1);
        Constructor<?> constructor = FriendBackup.class.getDeclaredConstructors()[0];
        Check.due("its parameters", constructor.getParameterCount(), 0);
        Check.due("it is public", Modifier.isPublic(constructor.getModifiers()), true);
        Check.due("public and final", FriendBackup.class.getModifiers(), Modifier.PUBLIC | Modifier.FINAL);
        Check.due("NONE", FriendBackup.NONE, -1);
        Check.due("MISMATCH", FriendBackup.MISMATCH, 0);
        Check.due("MATCH", FriendBackup.MATCH, 1);
        Check.due("SILENT", FriendBackup.SILENT, 2);
        inside(FriendBackup.class, names);
        Class<?>[] classes = FriendBackup.class.getDeclaredClasses();
        Check.due("at most twelve classes", classes.length <= 12, true);
        for (Class<?> type : classes) {
            Check.due(type + " is static", Modifier.isStatic(type.getModifiers()), true);
            Check.due(type + " is not public", Modifier.isPublic(type.getModifiers()), false);
            inside(type, names);
        }
        Check.end();
    }

    private static boolean isOpen(Member member) {
        return !Modifier.isPrivate(member.getModifiers());
    }

    private static String signature(Method method) {
        StringBuilder text = new StringBuilder(method.getReturnType() + " " + method.getName());
        for (Class<?> type : method.getParameterTypes()) {
            text.append(' ').append(type);
        }
        return text.toString();
    }

    private static void inside(Class<?> type, Set<String> faceNames) {
        int fields = 0;
        for (Field field : type.getDeclaredFields()) {
            boolean isStatic = Modifier.isStatic(field.getModifiers());
            fields += isStatic ? 0 : 1;
            Check.due(field + " is final if static", !isStatic || Modifier.isFinal(field.getModifiers()), true);
        }
        Check.due(type + " has some twenty fields at most", fields <= 20, true);
        for (Method method : type.getDeclaredMethods()) {
            boolean ownName = isOpen(method) || !faceNames.contains(method.getName());
            Check.due(method + " bears a name of its own if private", ownName, true);
            Check.due(method + " has seven parameters at most", method.getParameterCount() <= 7, true);
        }
    }
}
