import java.lang.reflect.Constructor;
import java.lang.reflect.Field;
import java.lang.reflect.Method;
import java.lang.reflect.Modifier;
import java.util.Arrays;
import java.util.Set;
import java.util.TreeSet;
import java.util.stream.Collectors;

/** The public face: the document's constants, constructor and methods, and nothing else that can be seen from outside. */
public final class FaceTest {
    private static final Check CHECK = new Check();

    private static final Set<String> METHODS = new TreeSet<>(Set.of(
        "int feed(long,int) IllegalArgumentException,IllegalStateException",
        "int load(int) IndexOutOfBoundsException,IllegalStateException",
        "int drop(int) IndexOutOfBoundsException",
        "int value() IllegalStateException",
        "int fault(boolean) ",
        "int setHome() IllegalArgumentException",
        "int home() ",
        "int lookUp() ",
        "int nodes() ",
        "int name(int) IndexOutOfBoundsException",
        "int kind(int) IndexOutOfBoundsException",
        "boolean isPrivate(int) IndexOutOfBoundsException",
        "int linkCost(int,int) IndexOutOfBoundsException",
        "int memberCost(int,int) IndexOutOfBoundsException",
        "int cost(int) IndexOutOfBoundsException",
        "int costByRounds(int) IndexOutOfBoundsException",
        "int steps(int) IndexOutOfBoundsException",
        "int state(int) IndexOutOfBoundsException",
        "int nodeAt(int,int) IndexOutOfBoundsException",
        "int costAt(int,int) IndexOutOfBoundsException",
        "int stepAt(int,int) IndexOutOfBoundsException",
        "boolean isBack(int,int) IndexOutOfBoundsException",
        "int print(int) IndexOutOfBoundsException",
        "int rewrite() ",
        "long word(int) "));

    private static String simpleNames(Class<?>[] classes) {
        return Arrays.stream(classes).map(Class::getSimpleName).collect(Collectors.joining(","));
    }

    private static void constants() {
        int[] got = {MailRouter.NONE, MailRouter.HOST, MailRouter.NET, MailRouter.DOMAIN, MailRouter.BEGIN,
            MailRouter.ALIAS, MailRouter.LINK, MailRouter.INTO, MailRouter.OUT, MailRouter.BACK};
        int[] want = {-1, 0, 1, 2, 0, 1, 2, 3, 4, 5};
        for (int i = 0; i < want.length; i++) {
            CHECK.due("constant " + i, got[i], want[i]);
        }
    }

    private static void members() {
        CHECK.due("the class is final", Modifier.isFinal(MailRouter.class.getModifiers()), true);
        Set<String> methods = new TreeSet<>();
        Set<String> hidden = new TreeSet<>();
        for (Method method : MailRouter.class.getDeclaredMethods()) {
            if (method.isSynthetic()) {
                continue;
            }
            if (Modifier.isPrivate(method.getModifiers())) {
                hidden.add(method.getName());
            } else {
                methods.add(method.getReturnType() + " " + method.getName() + "("
                    + simpleNames(method.getParameterTypes()) + ") " + simpleNames(method.getExceptionTypes()));
            }
        }
        CHECK.due("the methods", methods.toString(), METHODS.toString());
        for (String method : METHODS) {
            String name = method.substring(method.indexOf(' ') + 1, method.indexOf('('));
            CHECK.due("no private method is named " + name, hidden.contains(name), false);
        }
        Set<String> fields = new TreeSet<>();
        for (Field field : MailRouter.class.getDeclaredFields()) {
            if (!Modifier.isPrivate(field.getModifiers())) {
                fields.add(field.getName());
            }
        }
        CHECK.due("the fields", fields.toString(), "[ALIAS, BACK, BEGIN, DOMAIN, HOST, INTO, LINK, NET, NONE, OUT]");
        Constructor<?>[] constructors = MailRouter.class.getDeclaredConstructors();
        CHECK.due("the constructors", constructors.length, 1);
        CHECK.due("the parameters of the constructor", constructors[0].getParameterCount(), 0);
    }

    public static void main(String[] args) {
        constants();
        members();
        CHECK.end();
    }
}
