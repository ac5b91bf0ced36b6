import java.lang.reflect.Constructor;
import java.lang.reflect.Field;
import java.lang.reflect.Method;
import java.lang.reflect.Modifier;
import java.util.Set;
import java.util.TreeSet;

/** The class has the document's face and no other. */
public final class FaceTest {
    private static final Set<String> FACE = Set.of(
        "int rule(int) IllegalArgumentException IllegalStateException",
        "void clear()",
        "int build() IllegalStateException UnsupportedOperationException",
        "int states()",
        "int entry(int, int) IndexOutOfBoundsException",
        "void set(int, int, int) IndexOutOfBoundsException IllegalArgumentException",
        "boolean has(int, int, int, int) IndexOutOfBoundsException IllegalArgumentException",
        "boolean turn(int, int, int, int) IndexOutOfBoundsException IllegalArgumentException",
        "int check() IllegalStateException",
        "int fault(int)",
        "int feed(int)",
        "void empty()",
        "int parse(int) IllegalStateException IllegalArgumentException",
        "int nodes()",
        "int node(int, int) IndexOutOfBoundsException IllegalArgumentException",
        "int depth()");

    private static int wrong;

    private FaceTest() {
    }

    public static void main(String[] arguments) {
        due("public final", Modifier.toString(ParserProof.class.getModifiers()), "the class");
        due(new TreeSet<>(FACE), publicMethods(), "the public methods");
        due(1, ParserProof.class.getDeclaredConstructors().length, "how many constructors");
        Constructor<?> constructor = ParserProof.class.getDeclaredConstructors()[0];
        due("public ParserProof()", constructor.toString(), "the constructor");
        for (Method method : ParserProof.class.getDeclaredMethods()) {
            due(true, Modifier.isPublic(method.getModifiers()) || bearsOwnName(method), method + " is public, or private with a name of its own");
        }
        for (Field field : ParserProof.class.getDeclaredFields()) {
            due(true, Modifier.isPrivate(field.getModifiers()), field + " is private");
        }
        for (Class<?> inside : ParserProof.class.getDeclaredClasses()) {
            lookInside(inside);
        }
        System.out.println(wrong == 0 ? "the face is as due" : wrong + " things are not as due");
        System.exit(wrong == 0 ? 0 : 1);
    }

    private static void lookInside(Class<?> inside) {
        due(true, Modifier.isStatic(inside.getModifiers()), inside + " is static");
        for (Method method : inside.getDeclaredMethods()) {
            due(false, isOfFace(method.getName()), method + " bears a name of the face");
        }
    }

    private static boolean bearsOwnName(Method method) {
        return Modifier.isPrivate(method.getModifiers()) && !isOfFace(method.getName());
    }

    private static boolean isOfFace(String name) {
        return FACE.stream().anyMatch(line -> line.contains(" " + name + "("));
    }

    private static Set<String> publicMethods() {
        Set<String> methods = new TreeSet<>();
        for (Method method : ParserProof.class.getDeclaredMethods()) {
            if (Modifier.isPublic(method.getModifiers())) {
                StringBuilder line = new StringBuilder(method.getReturnType().getSimpleName()).append(' ').append(method.getName()).append('(');
                for (int i = 0; i < method.getParameterCount(); i++) {
                    line.append(i == 0 ? "" : ", ").append(method.getParameterTypes()[i].getSimpleName());
                }
                line.append(')');
                for (Class<?> thrown : method.getExceptionTypes()) {
                    line.append(' ').append(thrown.getSimpleName());
                }
                methods.add(line.toString());
            }
        }
        return methods;
    }

    private static void due(Object want, Object got, String what) {
        if (!want.equals(got)) {
            wrong++;
            System.out.println(what + ": due is " + want + ", there is " + got);
        }
    }
}
