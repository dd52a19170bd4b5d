import java.lang.reflect.Constructor;
import java.lang.reflect.Field;
import java.lang.reflect.Method;
import java.lang.reflect.Modifier;
import java.util.ArrayList;
import java.util.Arrays;
import java.util.List;

/** The face: just the members that the document names, and no other that can be seen. */
public final class FaceTest {
    private static final String[] FACE = {
        "int append(int) IllegalArgumentException IllegalStateException",
        "int approve(int,int) IndexOutOfBoundsException IllegalStateException",
        "int clearBuffer()",
        "int count(int) IllegalArgumentException",
        "int firstError()",
        "int give(int,int,int,int,int) IndexOutOfBoundsException IllegalArgumentException IllegalStateException",
        "int lapsesIn(int) IndexOutOfBoundsException",
        "int limit(int,int,int) IndexOutOfBoundsException IllegalArgumentException IllegalStateException",
        "int mandate(int,int) IndexOutOfBoundsException IllegalArgumentException",
        "int narrowest(int) IndexOutOfBoundsException",
        "int need(int,int) IndexOutOfBoundsException IllegalArgumentException IllegalStateException",
        "int pass(int) IllegalArgumentException IllegalStateException",
        "int person(int,int) IndexOutOfBoundsException IllegalArgumentException",
        "int request(int,int) IndexOutOfBoundsException IllegalArgumentException",
        "int room(int,boolean) IndexOutOfBoundsException",
        "int run() IllegalArgumentException",
        "int set(int,int) IndexOutOfBoundsException IllegalArgumentException",
        "int setting(int) IndexOutOfBoundsException",
        "int spend(int,int) IndexOutOfBoundsException IllegalArgumentException IllegalStateException",
        "int takeBack(int) IndexOutOfBoundsException IllegalStateException",
        "int under(int) IndexOutOfBoundsException",
        "int undo() IllegalStateException",
        "int urge(int,int) IndexOutOfBoundsException IllegalArgumentException IllegalStateException",
        "int whyNot(int,int) IndexOutOfBoundsException IllegalArgumentException",
        "int withdraw(int) IndexOutOfBoundsException IllegalStateException",
        "long digest()",
        "double usedShare(int) IndexOutOfBoundsException",
    };

    private FaceTest() {
    }

    public static void main(String[] args) {
        List<String> seen = new ArrayList<>();
        List<String> publicNames = new ArrayList<>();
        for (Method method : LapseMandates.class.getDeclaredMethods()) {
            if (!Modifier.isPrivate(method.getModifiers())) {
                seen.add(describe(method));
                publicNames.add(method.getName());
            }
        }
        List<String> due = new ArrayList<>(Arrays.asList(FACE));
        seen.sort(null);
        due.sort(null);
        for (int index = 0; index < Math.max(seen.size(), due.size()); index++) {
            String got = index < seen.size() ? seen.get(index) : "nothing";
            String want = index < due.size() ? due.get(index) : "nothing";
            Checks.due("face: " + got + ", due is " + want, got.equals(want) ? 1 : 0, 1);
        }
        for (Method method : LapseMandates.class.getDeclaredMethods()) {
            boolean hides = Modifier.isPrivate(method.getModifiers()) && publicNames.contains(method.getName());
            Checks.due("private " + method.getName() + " has a public name", hides ? 1 : 0, 0);
        }
        checkFields();
        checkConstructor();
        Checks.close();
    }

    private static void checkFields() {
        for (Field field : LapseMandates.class.getDeclaredFields()) {
            boolean isFace = field.getName().equals("NONE") && Modifier.isPublic(field.getModifiers());
            Checks.due("field " + field.getName(), isFace || Modifier.isPrivate(field.getModifiers()) ? 1 : 0, 1);
        }
    }

    private static void checkConstructor() {
        Constructor<?>[] constructors = LapseMandates.class.getDeclaredConstructors();
        Checks.due("constructors", constructors.length, 1);
        Checks.due("its parameters", constructors[0].getParameterCount(), 0);
        Checks.due("it is public", Modifier.isPublic(constructors[0].getModifiers()) ? 1 : 0, 1);
        int modifiers = LapseMandates.class.getModifiers();
        Checks.due("the class is public and final",
                Modifier.isPublic(modifiers) && Modifier.isFinal(modifiers) ? 1 : 0, 1);
    }

    private static String describe(Method method) {
        StringBuilder text = new StringBuilder();
        text.append(Modifier.isPublic(method.getModifiers()) ? "" : "hidden ");
        text.append(Modifier.isStatic(method.getModifiers()) ? "static " : "");
        text.append(method.getReturnType().getSimpleName()).append(' ').append(method.getName()).append('(');
        Class<?>[] parameters = method.getParameterTypes();
        for (int index = 0; index < parameters.length; index++) {
            text.append(index == 0 ? "" : ",").append(parameters[index].getSimpleName());
        }
        text.append(')');
        for (Class<?> thrown : method.getExceptionTypes()) {
            text.append(' ').append(thrown.getSimpleName());
        }
        return text.toString();
    }
}
