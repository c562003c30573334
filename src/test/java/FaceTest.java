import java.lang.reflect.Constructor;
import java.lang.reflect.Field;
import java.lang.reflect.Method;
import java.lang.reflect.Modifier;
import java.util.Arrays;
import java.util.TreeSet;
import java.util.stream.Collectors;

/** The public face is the document's, and nothing else of the class can be seen. */
public final class FaceTest {
    private static final String[] FACE = {
        "int power(boolean)", "int selfTestStep(int)", "void fault(int) throws IllegalArgumentException",
        "void poke(int,long,int) throws IllegalArgumentException, IllegalStateException",
        "long peek(int) throws IllegalArgumentException", "int login(int,int)",
        "void logout() throws IllegalStateException", "int setPin(int,int)",
        "int entropy(int) throws IllegalStateException", "int state()",
        "int slotInfo(int,int) throws IllegalArgumentException", "int zeroise(int)", "void zeroiseAll()",
        "int load(int,int,int,int,int,int)", "int make(int,int,int,int,int,int)",
        "int derive(int,int,int,int,int,int)", "int wrap(int,int)", "int unwrap(int,int,int)",
        "int run(int,int,int,int,int)", "int hash(int,int,int)", "int counter(int) throws IllegalArgumentException",
        "boolean same(int,int) throws IllegalArgumentException",
    };

    private static final Check C = new Check();

    public static void main(String[] args) {
        C.holds("The public face: its methods and constructor, and nothing else", FaceTest::face);
        C.holds("No private method bears the name of a public one; classes inside are static", FaceTest::inside);
        C.finish();
    }

    private static TreeSet<String> publicNames() {
        TreeSet<String> names = new TreeSet<>();
        for (Method method : SealedModule.class.getDeclaredMethods()) {
            if (Modifier.isPublic(method.getModifiers())) {
                names.add(method.getName());
            }
        }
        return names;
    }

    private static void face() {
        TreeSet<String> seen = new TreeSet<>();
        for (Method method : SealedModule.class.getDeclaredMethods()) {
            if (Modifier.isPublic(method.getModifiers())) {
                seen.add(said(method));
            } else if (!method.isSynthetic()) {
                C.due("private: " + method, Modifier.isPrivate(method.getModifiers()), true);
            }
        }
        C.due("the face: " + seen, seen.equals(new TreeSet<>(Arrays.asList(FACE))), true);
        for (Field field : SealedModule.class.getDeclaredFields()) {
            C.due("private: " + field, Modifier.isPrivate(field.getModifiers()), true);
        }
        Constructor<?>[] constructors = SealedModule.class.getDeclaredConstructors();
        C.due("constructors", constructors.length, 1);
        C.due("public constructor", Modifier.isPublic(constructors[0].getModifiers()), true);
        C.due("its parameters", constructors[0].getParameterCount(), 0);
        C.due("final", Modifier.isFinal(SealedModule.class.getModifiers()), true);
    }

    private static void inside() {
        TreeSet<String> publicNames = publicNames();
        for (Method method : SealedModule.class.getDeclaredMethods()) {
            if (!Modifier.isPublic(method.getModifiers())) {
                C.due("a name of the face: " + method, publicNames.contains(method.getName()), false);
            }
        }
        for (Class<?> inside : SealedModule.class.getDeclaredClasses()) {
            C.due("static: " + inside, Modifier.isStatic(inside.getModifiers()), true);
            C.due("not public: " + inside, Modifier.isPublic(inside.getModifiers()), false);
            for (Method method : inside.getDeclaredMethods()) {
                C.due("a name of the face: " + method, publicNames.contains(method.getName()), false);
            }
        }
    }

    private static String said(Method method) {
        String takes = Arrays.stream(method.getParameterTypes()).map(Class::getSimpleName).collect(Collectors.joining(","));
        String throwing = Arrays.stream(method.getExceptionTypes()).map(Class::getSimpleName).collect(Collectors.joining(", "));
        return method.getReturnType() + " " + method.getName() + "(" + takes + ")"
                + (throwing.isEmpty() ? "" : " throws " + throwing);
    }
}
