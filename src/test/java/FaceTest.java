import java.lang.reflect.Constructor;
import java.lang.reflect.Field;
import java.lang.reflect.Method;
import java.lang.reflect.Modifier;
import java.util.Set;
import java.util.TreeSet;

/** The public face, and nothing beside it. */
public final class FaceTest {
    private static final Set<String> WANTED = Set.of("int put(int)", "int queue(int)", "boolean call(int)",
            "int deliver(int)", "boolean lose(int)", "boolean alter(int,int,int)", "int tick()", "boolean crash(int)",
            "int settle(int)", "int waiting(int)", "int look(int,int,int)", "int told(int,int)", "int queued(int,int)",
            "int executed(int,int)", "int file(int,int,int)", "int times(int,int)");

    public static void main(String[] args) {
        Set<String> names = new TreeSet<>();
        Set<String> got = new TreeSet<>();
        for (Method method : SpoolLink.class.getDeclaredMethods()) {
            if (!Modifier.isPrivate(method.getModifiers())) {
                Check.due(method + " is a plain public one", method.getModifiers(), Modifier.PUBLIC);
                names.add(method.getName());
                got.add(face(method));
            }
        }
        for (Method method : SpoolLink.class.getDeclaredMethods()) {
            if (Modifier.isPrivate(method.getModifiers())) {
                Check.due(method + " bears a public one's name", names.contains(method.getName()), false);
            }
        }
        Check.due("the methods " + got, got.equals(WANTED), true);
        constantAndConstructor();
        Check.end();
    }

    private static String face(Method method) {
        StringBuilder face = new StringBuilder(method.getReturnType() + " " + method.getName() + "(");
        for (Class<?> type : method.getParameterTypes()) {
            face.append(face.charAt(face.length() - 1) == '(' ? "" : ",").append(type);
        }
        return face.append(")").toString();
    }

    private static void constantAndConstructor() {
        Check.due("NONE", SpoolLink.NONE, -1);
        for (Field field : SpoolLink.class.getDeclaredFields()) {
            boolean isNone = field.getName().equals("NONE");
            int wanted = isNone ? Modifier.PUBLIC : Modifier.PRIVATE;
            Check.due(field + " is as wide as due", field.getModifiers() & 7, wanted);
            boolean isConstant = Modifier.isFinal(field.getModifiers());
            Check.due(field + " is no static state", !Modifier.isStatic(field.getModifiers()) || isConstant, true);
        }
        Constructor<?>[] constructors = SpoolLink.class.getDeclaredConstructors();
        Check.due("constructors", constructors.length, 1);
        Check.due("parameters of it", constructors[0].getParameterCount(), 0);
        Check.due("it is public", Modifier.isPublic(constructors[0].getModifiers()), true);
        Check.due("the class", SpoolLink.class.getModifiers(), Modifier.PUBLIC | Modifier.FINAL);
        for (Class<?> inside : SpoolLink.class.getDeclaredClasses()) {
            Check.due(inside + " is static", Modifier.isStatic(inside.getModifiers()), true);
            Check.due(inside + " is not public", Modifier.isPublic(inside.getModifiers()), false);
        }
    }
}
