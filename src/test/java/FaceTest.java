import java.lang.reflect.Constructor;
import java.lang.reflect.Field;
import java.lang.reflect.Method;
import java.lang.reflect.Modifier;
import java.util.Set;
import java.util.TreeSet;

/** The public face: the constructor, the thirteen methods, and nothing else that is not private. */
public final class FaceTest {
    private static final Set<String> FACE = Set.of("int code(int,int)", "int local(int)", "int add(int,int)",
            "int row(int,int,int,int)", "int judge(int)", "int thread(int)", "int run(int,int)",
            "int told(int,int)", "int object(int,int)", "int value(int,int)", "int global(int)", "int stuck()",
            "void reset()");

    public static void main(String[] args) {
        int kind = JudgedCodes.class.getModifiers();
        Check.due("the class is public and final", kind & (Modifier.PUBLIC | Modifier.FINAL),
                Modifier.PUBLIC | Modifier.FINAL);
        methods();
        constructors();
        for (Field field : JudgedCodes.class.getDeclaredFields()) {
            Check.due(field + " is private", field.getModifiers() & Modifier.PRIVATE, Modifier.PRIVATE);
        }
        Check.end();
    }

    private static void methods() {
        Set<String> left = new TreeSet<>(FACE);
        for (Method method : JudgedCodes.class.getDeclaredMethods()) {
            boolean hidden = Modifier.isPrivate(method.getModifiers()) || method.isSynthetic();
            boolean isOfTheFace = left.remove(shape(method));
            Check.due(method + " is of the face or private", isOfTheFace != hidden ? 1 : 0, 1);
        }
        Check.due("methods that are missing " + left, left.size(), 0);
    }

    private static String shape(Method method) {
        StringBuilder shape = new StringBuilder(method.getReturnType() + " " + method.getName() + "(");
        for (int i = 0; i < method.getParameterCount(); i++) {
            shape.append(i == 0 ? "" : ",").append(method.getParameterTypes()[i]);
        }
        return shape.append(")").toString();
    }

    private static void constructors() {
        Constructor<?>[] all = JudgedCodes.class.getDeclaredConstructors();
        Check.due("constructors", all.length, 1);
        Check.due("its parameters", all[0].getParameterCount(), 0);
        Check.due("it is public", all[0].getModifiers(), Modifier.PUBLIC);
    }
}
