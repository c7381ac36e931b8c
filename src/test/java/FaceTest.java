import java.lang.reflect.Constructor;
import java.lang.reflect.Field;
import java.lang.reflect.Method;
import java.lang.reflect.Modifier;
import java.util.TreeSet;

/** The document's public face, and rule 1 of the language: nothing but it can be seen. */
public final class FaceTest {
    private static final String[] FACE = {
        "void source(int,int,int,int,int,int,int) NoSuchElementException IllegalArgumentException IllegalStateException",
        "boolean base(int,int,int,int) NoSuchElementException IllegalArgumentException IllegalStateException",
        "int event(int) NoSuchElementException",
        "int tick()",
        "int ticks(int) IllegalArgumentException",
        "int about(int,int) NoSuchElementException IndexOutOfBoundsException",
        "int task(int,int) NoSuchElementException IndexOutOfBoundsException",
        "int bound(int) NoSuchElementException",
        "int used(int,boolean,int,int) NoSuchElementException IndexOutOfBoundsException",
        "int floor(int) IllegalArgumentException",
        "int time()",
    };

    public static void main(String[] args) {
        int modifiers = BudgetKernel.class.getModifiers();
        Check.due("public", Modifier.isPublic(modifiers), true);
        Check.due("final", Modifier.isFinal(modifiers), true);
        TreeSet<String> want = new TreeSet<>(java.util.Arrays.asList(FACE));
        TreeSet<String> seen = new TreeSet<>();
        TreeSet<String> publicNames = new TreeSet<>();
        for (Method method : BudgetKernel.class.getDeclaredMethods()) {
            if (!Modifier.isPrivate(method.getModifiers()) && !method.isSynthetic()) {
                seen.add(text(method));
                publicNames.add(method.getName());
                Check.due(method.getName() + " is public", Modifier.isPublic(method.getModifiers()), true);
            }
        }
        Check.due("the methods that can be seen", seen.toString(), want.toString());
        for (Method method : BudgetKernel.class.getDeclaredMethods()) {
            if (Modifier.isPrivate(method.getModifiers())) {
                Check.due(method.getName() + " bears a public name", publicNames.contains(method.getName()), false);
            }
        }
        for (Field field : BudgetKernel.class.getDeclaredFields()) {
            Check.due("field " + field.getName() + " is private", Modifier.isPrivate(field.getModifiers()), true);
        }
        Constructor<?>[] constructors = BudgetKernel.class.getDeclaredConstructors();
        Check.due("constructors", constructors.length, 1);
        Check.due("its parameters", constructors[0].getParameterCount(), 0);
        Check.due("it is public", Modifier.isPublic(constructors[0].getModifiers()), true);
        for (Class<?> inside : BudgetKernel.class.getDeclaredClasses()) {
            Check.due(inside.getSimpleName() + " is static", Modifier.isStatic(inside.getModifiers()), true);
            Check.due(inside.getSimpleName() + " is hidden", Modifier.isPublic(inside.getModifiers()), false);
        }
        Check.end();
    }

    private static String text(Method method) {
        StringBuilder text = new StringBuilder();
        text.append(method.getReturnType().getSimpleName()).append(' ').append(method.getName()).append('(');
        String between = "";
        for (Class<?> parameter : method.getParameterTypes()) {
            text.append(between).append(parameter.getSimpleName());
            between = ",";
        }
        text.append(')');
        for (Class<?> thrown : method.getExceptionTypes()) {
            text.append(' ').append(thrown.getSimpleName());
        }
        return text.toString();
    }
}
