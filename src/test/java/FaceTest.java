import java.lang.reflect.Constructor;
import java.lang.reflect.Field;
import java.lang.reflect.Method;
import java.lang.reflect.Modifier;
import java.util.Set;
import java.util.TreeSet;

/** The public face is that of the document and nothing else (LANGUAGE.md, rules 1 and 5). */
public final class FaceTest {
    private static final Set<String> FACE = Set.of(
            "int write(long) IllegalArgumentException IndexOutOfBoundsException",
            "int read() IllegalArgumentException",
            "int wrong()",
            "boolean rule(int,boolean) IllegalArgumentException",
            "int give(long) IllegalArgumentException IllegalStateException IndexOutOfBoundsException",
            "int found(int) IndexOutOfBoundsException",
            "int place(int) IndexOutOfBoundsException",
            "int mend()",
            "int letter(int) IndexOutOfBoundsException",
            "int declared(int,int) IndexOutOfBoundsException IllegalArgumentException",
            "int count(int) IllegalArgumentException");

    public static void main(String[] args) {
        Check check = new Check();
        check.same("the class is public and final",
                LintDesk.class.getModifiers() & (Modifier.PUBLIC | Modifier.FINAL),
                Modifier.PUBLIC | Modifier.FINAL);
        Set<String> seen = new TreeSet<>();
        for (Method method : LintDesk.class.getDeclaredMethods()) {
            if (Modifier.isPublic(method.getModifiers())) {
                seen.add(heading(method));
            } else if (!method.isSynthetic()) {
                check.same(method + " is private", Modifier.isPrivate(method.getModifiers()), true);
            }
        }
        check.same("the public methods", seen, new TreeSet<>(FACE));
        for (Constructor<?> constructor : LintDesk.class.getDeclaredConstructors()) {
            check.same("constructor", constructor.toString(), "public LintDesk()");
        }
        fields(check, LintDesk.class);
        for (Class<?> inside : LintDesk.class.getDeclaredClasses()) {
            check.same(inside + " is static", Modifier.isStatic(inside.getModifiers()), true);
            fields(check, inside);
        }
        check.end();
    }

    private static String heading(Method method) {
        String text = method.getReturnType() + " " + method.getName() + "(";
        for (int k = 0; k < method.getParameterCount(); k++) {
            text += (k == 0 ? "" : ",") + method.getParameterTypes()[k];
        }
        text += ")";
        for (Class<?> thrown : method.getExceptionTypes()) {
            text += " " + thrown.getSimpleName();
        }
        return text;
    }

    private static void fields(Check check, Class<?> of) {
        int own = 0;
        for (Field field : of.getDeclaredFields()) {
            int modifiers = field.getModifiers();
            boolean constant = Modifier.isStatic(modifiers);
            own += constant ? 0 : 1;
            check.same(field + " is private or an enum's constant",
                    Modifier.isPrivate(modifiers) || field.isEnumConstant(), true);
            check.same(field + " is final if static", !constant || Modifier.isFinal(modifiers), true);
        }
        check.same(of + " has at most twenty fields", own <= 20, true);
    }
}
