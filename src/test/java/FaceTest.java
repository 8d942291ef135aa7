import java.lang.reflect.Constructor;
import java.lang.reflect.Field;
import java.lang.reflect.Method;
import java.lang.reflect.Modifier;
import java.util.Set;
import java.util.TreeSet;

/** The public face is that of the document, and nothing else can be seen from outside. */
public final class FaceTest {
    private static final Set<String> METHODS = Set.of(
            "void stuck(int,int)", "void power(int)", "int state()", "long steps()",
            "boolean format()", "boolean mount()", "int create(int)", "int find(int)",
            "int length(int)", "int append(int,int)", "int byteAt(int,int)",
            "int truncate(int,int)", "int remove(int)", "int sync()", "int free()",
            "int pageOf(int,int)", "int queue(int,boolean,long)", "int serve()",
            "long served(int)");

    public static void main(String[] args) {
        Check check = new Check();
        check.is("NONE", BubbleBox.NONE, -1);
        int modifiers = BubbleBox.class.getModifiers();
        check.is("public", Modifier.isPublic(modifiers), true);
        check.is("final", Modifier.isFinal(modifiers), true);
        check.is("methods " + seenMethods(), seenMethods().equals(METHODS), true);
        fieldsAreHidden(check);
        Constructor<?>[] constructors = BubbleBox.class.getDeclaredConstructors();
        check.is("constructors", constructors.length, 1);
        check.is("its parameters", constructors[0].getParameterCount(), 0);
        check.is("it is public", Modifier.isPublic(constructors[0].getModifiers()), true);
        hiddenNamesDiffer(check);
        check.end();
    }

    private static Set<String> seenMethods() {
        Set<String> seen = new TreeSet<>();
        for (Method method : BubbleBox.class.getDeclaredMethods()) {
            if (!Modifier.isPrivate(method.getModifiers()) && !method.isSynthetic()) {
                seen.add(signature(method));
            }
        }
        return seen;
    }

    private static String signature(Method method) {
        StringBuilder text = new StringBuilder();
        text.append(method.getReturnType().getName()).append(' ').append(method.getName());
        String between = "(";
        for (Class<?> type : method.getParameterTypes()) {
            text.append(between).append(type.getName());
            between = ",";
        }
        return text.append(between.equals("(") ? "()" : ")").toString();
    }

    private static void fieldsAreHidden(Check check) {
        for (Field field : BubbleBox.class.getDeclaredFields()) {
            boolean hidden = Modifier.isPrivate(field.getModifiers()) || field.isSynthetic();
            check.is("private " + field.getName(), hidden, !field.getName().equals("NONE"));
        }
    }

    /** Rule 1 of LANGUAGE.md, in the classes inside too. */
    private static void hiddenNamesDiffer(Check check) {
        Set<String> names = new TreeSet<>();
        for (String method : METHODS) {
            names.add(method.substring(method.indexOf(' ') + 1, method.indexOf('(')));
        }
        hiddenNamesDiffer(check, names, BubbleBox.class);
        for (Class<?> inside : BubbleBox.class.getDeclaredClasses()) {
            boolean seen = (inside.getModifiers() & (Modifier.PUBLIC | Modifier.PROTECTED)) != 0;
            check.is("seen from outside " + inside, seen, false);
            hiddenNamesDiffer(check, names, inside);
        }
    }

    private static void hiddenNamesDiffer(Check check, Set<String> names, Class<?> where) {
        for (Method method : where.getDeclaredMethods()) {
            if (Modifier.isPrivate(method.getModifiers()) && !method.isSynthetic()) {
                check.is("own name " + method.getName(), names.contains(method.getName()), false);
            }
        }
    }
}
