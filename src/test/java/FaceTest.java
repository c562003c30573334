import java.lang.reflect.Constructor;
import java.lang.reflect.Field;
import java.lang.reflect.Method;
import java.lang.reflect.Modifier;
import java.util.Arrays;
import java.util.TreeSet;

/** The public face is the document's, and nothing else of the class can be seen. */
public final class FaceTest {
    private static final String[] FACE = {
        "int power(boolean)", "int selfTestStep(int)", "void fault(int)", "void poke(int,long,int)",
        "long peek(int)", "int login(int,int)", "void logout()", "int setPin(int,int)", "int entropy(int)",
        "int state()", "int slotInfo(int,int)", "int zeroise(int)", "void zeroiseAll()",
        "int load(int,int,int,int,int,int)", "int make(int,int,int,int,int,int)",
        "int derive(int,int,int,int,int,int)", "int wrap(int,int)", "int unwrap(int,int,int)",
        "int run(int,int,int,int,int)", "int hash(int,int,int)", "int counter(int)", "boolean same(int,int)",
    };

    public static void main(String[] args) {
        Check c = new Check();
        TreeSet<String> seen = new TreeSet<>();
        TreeSet<String> publicNames = new TreeSet<>();
        for (Method method : SealedModule.class.getDeclaredMethods()) {
            if (Modifier.isPublic(method.getModifiers())) {
                seen.add(said(method));
                publicNames.add(method.getName());
            } else if (!method.isSynthetic()) {
                c.due("private: " + method, Modifier.isPrivate(method.getModifiers()), true);
            }
        }
        c.due("the face: " + seen, seen.equals(new TreeSet<>(Arrays.asList(FACE))), true);
        for (Field field : SealedModule.class.getDeclaredFields()) {
            c.due("private: " + field, Modifier.isPrivate(field.getModifiers()), true);
        }
        Constructor<?>[] constructors = SealedModule.class.getDeclaredConstructors();
        c.due("constructors", constructors.length, 1);
        c.due("final", Modifier.isFinal(SealedModule.class.getModifiers()), true);
        lookInside(c, publicNames);
        c.finish();
    }

    private static void lookInside(Check c, TreeSet<String> publicNames) {
        for (Method method : SealedModule.class.getDeclaredMethods()) {
            if (!Modifier.isPublic(method.getModifiers())) {
                c.due("a name of the face: " + method, publicNames.contains(method.getName()), false);
            }
        }
        for (Class<?> inside : SealedModule.class.getDeclaredClasses()) {
            c.due("static: " + inside, Modifier.isStatic(inside.getModifiers()), true);
            c.due("not public: " + inside, Modifier.isPublic(inside.getModifiers()), false);
            for (Method method : inside.getDeclaredMethods()) {
                c.due("a name of the face: " + method, publicNames.contains(method.getName()), false);
            }
        }
    }

    private static String said(Method method) {
        StringBuilder out = new StringBuilder(method.getReturnType() + " " + method.getName() + "(");
        for (Class<?> type : method.getParameterTypes()) {
            out.append(out.charAt(out.length() - 1) == '(' ? "" : ",").append(type);
        }
        return out.append(")").toString();
    }
}
