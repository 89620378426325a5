import java.lang.reflect.Constructor;
import java.lang.reflect.Field;
import java.lang.reflect.Member;
import java.lang.reflect.Method;
import java.lang.reflect.Modifier;
import java.util.Set;
import java.util.TreeSet;

/** The public face is that of the document and no other, and the rules 1 and 5 of LANGUAGE.md hold. */
public final class FaceTest {
    private static final Due DUE = new Due();
    private static final Set<String> METHODS = Set.of(
        "int insert(int, int)", "boolean remove(int)", "int move(int, int, int)", "int sites()",
        "int coordinate(int, int)", "int triangles()", "int triangle(int)", "int number(int, int, int)",
        "int across(int, int)", "int corners(int)", "int locate(int, int)", "int nearest(int, int)",
        "int neighbours(int)", "int boundary(int)", "int inside(int, int, int, int)", "long area()");
    private static final Set<String> CONSTANTS = Set.of("NONE", "BAD", "SAME", "FULL");

    public static void main(String[] args) {
        DUE.same("NONE", FannedSites.NONE, -1);
        DUE.same("BAD", FannedSites.BAD, -2);
        DUE.same("SAME", FannedSites.SAME, -3);
        DUE.same("FULL", FannedSites.FULL, -4);
        Class<?> face = FannedSites.class;
        DUE.same("public and final", face.getModifiers(), Modifier.PUBLIC | Modifier.FINAL);
        checkMethods(face);
        checkFields(face);
        checkConstructors(face);
        for (Class<?> nested : face.getDeclaredClasses()) {
            int modifiers = nested.getModifiers();
            DUE.same(nested + " is static", Modifier.isStatic(modifiers), true);
            DUE.same(nested + " is not public or protected", modifiers & (Modifier.PUBLIC | Modifier.PROTECTED), 0);
            checkStaticFields(nested);
        }
        DUE.end();
    }

    private static void checkMethods(Class<?> face) {
        Set<String> open = new TreeSet<>();
        Set<String> names = new TreeSet<>();
        for (Method method : face.getDeclaredMethods()) {
            if (!isPrivate(method)) {
                open.add(written(method));
                names.add(method.getName());
                DUE.same(method + " is public", Modifier.isPublic(method.getModifiers()), true);
                DUE.same(method + " is not static", Modifier.isStatic(method.getModifiers()), false);
            }
        }
        DUE.same("methods " + open, open.equals(METHODS), true);
        for (Method method : face.getDeclaredMethods()) {
            boolean clashes = isPrivate(method) && names.contains(method.getName());
            DUE.same(method + " is private with a public name", clashes, false);
        }
    }

    private static String written(Method method) {
        StringBuilder text = new StringBuilder(method.getReturnType() + " " + method.getName() + "(");
        for (Class<?> type : method.getParameterTypes()) {
            text.append(text.charAt(text.length() - 1) == '(' ? "" : ", ").append(type);
        }
        return text.append(")").toString();
    }

    private static void checkFields(Class<?> face) {
        Set<String> open = new TreeSet<>();
        for (Field field : face.getDeclaredFields()) {
            if (!isPrivate(field)) {
                open.add(field.getName());
                int wanted = Modifier.PUBLIC | Modifier.STATIC | Modifier.FINAL;
                DUE.same(field + " is a public constant", field.getModifiers(), wanted);
                DUE.same(field + " is an int", field.getType() == int.class, true);
            }
        }
        DUE.same("constants " + open, open.equals(CONSTANTS), true);
        checkStaticFields(face);
    }

    private static void checkStaticFields(Class<?> type) {
        for (Field field : type.getDeclaredFields()) {
            int modifiers = field.getModifiers();
            DUE.same(field + " is final", !Modifier.isStatic(modifiers) || Modifier.isFinal(modifiers), true);
        }
    }

    private static void checkConstructors(Class<?> face) {
        Constructor<?>[] all = face.getDeclaredConstructors();
        DUE.same("constructors", all.length, 1);
        DUE.same("the constructor is public", Modifier.isPublic(all[0].getModifiers()), true);
        DUE.same("its parameters", all[0].getParameterCount(), 0);
    }

    private static boolean isPrivate(Member member) {
        return Modifier.isPrivate(member.getModifiers());
    }
}
