import java.lang.reflect.Constructor;
import java.lang.reflect.Field;
import java.lang.reflect.Member;
import java.lang.reflect.Method;
import java.lang.reflect.Modifier;
import java.util.Set;
import java.util.TreeSet;

/** The public face is the document's, with the exceptions that it names, and nothing else is to be seen from outside. */
public final class FaceTest {
    private static final String[] FACE = {
        "int feed(int,int,int,int,int) IndexOutOfBounds",
        "int end(int) IllegalArgument",
        "int tell()",
        "int untell()",
        "int drop(int) IndexOutOfBounds",
        "int run() UnsupportedOperation Arithmetic IndexOutOfBounds",
        "int tuple(int,int) IllegalArgument IllegalState IndexOutOfBounds",
        "int why(int,int) IllegalState IndexOutOfBounds",
        "int show(int) IllegalState IndexOutOfBounds",
        "int find() IllegalState",
        "int ask() IllegalState Arithmetic",
        "int answer(int,int) IndexOutOfBounds",
        "int layer(int) IllegalState IndexOutOfBounds",
        "long word(int) IndexOutOfBounds",
        "int count(int) IllegalArgument"};

    private FaceTest() {
    }

    public static void main(String[] args) {
        Class<?> face = RoundReckoner.class;
        Checks.due("public and final", face.getModifiers(), Modifier.PUBLIC | Modifier.FINAL);
        Set<String> due = new TreeSet<>(Set.of(FACE));
        Set<String> seen = new TreeSet<>();
        for (Method method : face.getDeclaredMethods()) {
            if (isSeen(method)) {
                seen.add(written(method));
            }
        }
        Checks.dueText("methods", String.join("\n", seen), String.join("\n", due));
        for (Field field : face.getDeclaredFields()) {
            Checks.due("field " + field.getName() + " is seen", isSeen(field) ? 1 : 0, 0);
        }
        Constructor<?>[] constructors = face.getDeclaredConstructors();
        Checks.due("constructors", constructors.length, 1);
        Checks.due("its parameters", constructors[0].getParameterCount(), 0);
        Checks.due("it is public", constructors[0].getModifiers(), Modifier.PUBLIC);
        for (Class<?> inside : face.getDeclaredClasses()) {
            int modifiers = inside.getModifiers();
            Checks.due(inside + " is seen", modifiers & (Modifier.PUBLIC | Modifier.PROTECTED), 0);
            Checks.due(inside + " is static", modifiers & Modifier.STATIC, Modifier.STATIC);
        }
        Checks.finish("FaceTest");
    }

    private static boolean isSeen(Member member) {
        return !member.isSynthetic() && !Modifier.isPrivate(member.getModifiers());
    }

    private static String written(Method method) {
        StringBuilder text = new StringBuilder(method.getReturnType().getName()).append(' ').append(method.getName()).append('(');
        for (Class<?> parameter : method.getParameterTypes()) {
            text.append(text.charAt(text.length() - 1) == '(' ? "" : ",").append(parameter.getName());
        }
        text.append(')');
        for (Class<?> thrown : method.getExceptionTypes()) {
            text.append(' ').append(thrown.getSimpleName().replace("Exception", ""));
        }
        return text.toString();
    }
}
