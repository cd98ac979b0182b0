import java.lang.reflect.Executable;
import java.lang.reflect.Field;
import java.lang.reflect.Member;
import java.lang.reflect.Method;
import java.lang.reflect.Modifier;
import java.util.ArrayList;
import java.util.Arrays;
import java.util.Collections;
import java.util.List;

/** "The public face": what each method takes, answers and throws, and that there is nothing else. */
final class FaceTest {
    private static final String[] FACE = {
        "int feed(int, int, int, int, int) IllegalStateException",
        "int end(int) IllegalArgumentException",
        "int describe() UnsupportedOperationException",
        "int assemble() IllegalStateException UnsupportedOperationException",
        "int kind()",
        "int place()",
        "long word(int) NoSuchElementException",
        "int poke(int, long) IllegalStateException IllegalArgumentException",
        "int list(int) NoSuchElementException",
        "int which()",
        "long listing(int) IllegalArgumentException",
        "int quote() IllegalStateException",
        "long told(int, int) IndexOutOfBoundsException IllegalArgumentException",
        "boolean overlap(int, int) IndexOutOfBoundsException",
        "int count(int) IllegalArgumentException"};

    private FaceTest() {
    }

    public static void main(String[] args) {
        Checks.runEach(FaceTest.class);
        Checks.finish();
    }

    private static String shape(Method method) {
        StringBuilder shape = new StringBuilder(method.getReturnType().getSimpleName());
        shape.append(' ').append(method.getName()).append('(').append(names(method.getParameterTypes(), ", ")).append(')');
        String thrown = names(method.getExceptionTypes(), " ");
        return shape.append(thrown.isEmpty() ? "" : " ").append(thrown).toString();
    }

    private static String names(Class<?>[] types, String between) {
        List<String> names = new ArrayList<>();
        for (Class<?> type : types) {
            names.add(type.getSimpleName());
        }
        return String.join(between, names);
    }

    /** The public face: each method with its parameters, answer and exceptions, and no other. */
    private static void theMethodsAreThose() {
        List<String> due = new ArrayList<>(Arrays.asList(FACE));
        List<String> got = new ArrayList<>();
        for (Method method : IsaForge.class.getDeclaredMethods()) {
            if (Modifier.isPublic(method.getModifiers())) {
                got.add(shape(method));
            }
        }
        Collections.sort(due);
        Collections.sort(got);
        Checks.same("methods", due, got);
    }

    /** The public face: "public final class IsaForge", "public IsaForge()". */
    private static void theClassIsFinalWithOneConstructor() {
        int modifiers = IsaForge.class.getModifiers();
        Checks.same("modifiers", Modifier.PUBLIC | Modifier.FINAL, modifiers);
        Executable[] constructors = IsaForge.class.getDeclaredConstructors();
        Checks.same("constructors", 1, constructors.length);
        Checks.same("its parameters", 0, constructors[0].getParameterCount());
        Checks.same("it is public", true, Modifier.isPublic(constructors[0].getModifiers()));
    }

    /** LANGUAGE.md, rule 1: no other member that can be seen, and no private method with a public one's name. */
    private static void allElseIsPrivate() {
        for (Field field : IsaForge.class.getDeclaredFields()) {
            isPrivate(field);
        }
        for (Method method : IsaForge.class.getDeclaredMethods()) {
            if (!Modifier.isPublic(method.getModifiers())) {
                isPrivate(method);
                Checks.same("name of " + method, false, isNameOfFace(method.getName()));
            }
        }
        for (Class<?> inside : IsaForge.class.getDeclaredClasses()) {
            Checks.same("static " + inside, true, Modifier.isStatic(inside.getModifiers()));
            Checks.same("public " + inside, false, Modifier.isPublic(inside.getModifiers()));
        }
    }

    private static void isPrivate(Member member) {
        Checks.same("private " + member, true, member.isSynthetic() || Modifier.isPrivate(member.getModifiers()));
    }

    private static boolean isNameOfFace(String name) {
        for (String method : FACE) {
            if (method.contains(" " + name + "(")) {
                return true;
            }
        }
        return false;
    }
}
