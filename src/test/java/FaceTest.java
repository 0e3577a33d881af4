import java.lang.reflect.Constructor;
import java.lang.reflect.Field;
import java.lang.reflect.Method;
import java.lang.reflect.Modifier;
import java.util.Arrays;
import java.util.Set;
import java.util.TreeSet;

/** The public face of the document, and nothing else that another class can see. */
public final class FaceTest {
    /** Each method, and behind it the exceptions that it declares, without "Exception". */
    private static final String[] METHODS = {
        "int define(int) IndexOutOfBounds IllegalState",
        "int setTable(int,int) IndexOutOfBounds IllegalArgument",
        "int join(int,int,int,int) IndexOutOfBounds IllegalArgument",
        "int fix(int,int,boolean) IndexOutOfBounds", "int substitute(int,int,int) IndexOutOfBounds",
        "int type(char) IllegalState", "int clearText()", "int textError()",
        "int textProducts() IllegalState", "int undo() IllegalState", "int takeSnapshot()",
        "int restoreSnapshot() IllegalState", "int tableOf(int) IndexOutOfBounds",
        "int valueAt(int,int) IndexOutOfBounds", "int weightOf(int) IndexOutOfBounds",
        "boolean dependsOn(int,int) IndexOutOfBounds", "int productsByHalves(int) IndexOutOfBounds",
        "int productsBySums(int) IndexOutOfBounds", "int degreeOf(int) IndexOutOfBounds",
        "int printedLength(int) IndexOutOfBounds", "char printedLetter(int,int) IndexOutOfBounds",
        "int distanceByTrying(int) IndexOutOfBounds", "int distanceBySums(int) IndexOutOfBounds",
        "boolean isSelfDual(int) IndexOutOfBounds", "boolean isMonotone(int) IndexOutOfBounds",
        "boolean areEnough(int) IllegalArgument", "int fewestEnough()", "int recordedStates()"
    };

    public static void main(String[] args) {
        constants();
        members();
        namesOfPrivateMethods();
        Check.end();
    }

    private static void constants() {
        Check.due("NONE", ZhegalkinBench.NONE, -1);
        Check.due("PLUS", ZhegalkinBench.PLUS, 0);
        Check.due("AND", ZhegalkinBench.AND, 1);
        Check.due("OR", ZhegalkinBench.OR, 2);
        Check.due("IMPLIES", ZhegalkinBench.IMPLIES, 3);
    }

    private static void members() {
        Set<String> seen = new TreeSet<>();
        for (Method method : ZhegalkinBench.class.getDeclaredMethods()) {
            if (!Modifier.isPrivate(method.getModifiers()) && !method.isSynthetic()) {
                Check.due(method + " is public", Modifier.isPublic(method.getModifiers()), true);
                seen.add(told(method));
            }
        }
        Check.due("the methods", seen, new TreeSet<>(Arrays.asList(METHODS)));
        Set<String> fields = new TreeSet<>();
        for (Field field : ZhegalkinBench.class.getDeclaredFields()) {
            if (!Modifier.isPrivate(field.getModifiers()) && !field.isSynthetic()) {
                fields.add(Modifier.toString(field.getModifiers()) + " " + field.getName());
            }
        }
        Check.due("the fields", fields, new TreeSet<>(Arrays.asList(
            "public static final NONE", "public static final PLUS", "public static final AND",
            "public static final OR", "public static final IMPLIES")));
        Constructor<?>[] constructors = ZhegalkinBench.class.getDeclaredConstructors();
        Check.due("the number of constructors", constructors.length, 1);
        Check.due("the constructor", constructors[0].toString(), "public ZhegalkinBench()");
        Check.due("the class", Modifier.toString(ZhegalkinBench.class.getModifiers()), "public final");
    }

    private static String told(Method method) {
        StringBuilder told = new StringBuilder();
        told.append(method.getReturnType()).append(' ').append(method.getName()).append('(');
        String comma = "";
        for (Class<?> parameter : method.getParameterTypes()) {
            told.append(comma).append(parameter);
            comma = ",";
        }
        told.append(')');
        for (Class<?> exception : method.getExceptionTypes()) {
            told.append(' ').append(exception.getSimpleName().replace("Exception", ""));
        }
        return told.toString();
    }

    private static void namesOfPrivateMethods() {
        Set<String> names = new TreeSet<>();
        for (String method : METHODS) {
            names.add(method.substring(method.indexOf(' ') + 1, method.indexOf('(')));
        }
        for (Method method : ZhegalkinBench.class.getDeclaredMethods()) {
            if (Modifier.isPrivate(method.getModifiers())) {
                Check.due(method + " bears a public name", names.contains(method.getName()), false);
            }
        }
    }
}
