import java.lang.reflect.Constructor;
import java.lang.reflect.Field;
import java.lang.reflect.Method;
import java.lang.reflect.Modifier;
import java.util.Arrays;
import java.util.Set;
import java.util.TreeSet;

/** The class has the document's public face, and nothing beside it that others could see. */
public final class FaceTest {
    private static final String[] METHODS = {"int feed(int,int,int,int,int)", "boolean end(int)", "int heap()",
        "int fault(int)", "int has(int)", "int letter(int,int,int)", "int mail(int,int)", "int gift(int,int)",
        "int helper(int,int)", "int takes(int,int)", "long warmth(int,int)", "int can(int,int)", "int warmest(int)",
        "long warms()", "int later(int)", "int finished()", "int sheets(int)", "int shared(int)", "int tell(int)",
        "int children(int)", "int see()", "int whose()", "int watched(int)", "int answer(int,int)",
        "boolean sheet(int,int)", "int give(int,int)", "int evenings(int)", "int chance(int)", "boolean undo()",
        "boolean seed(int)", "long ask()", "int image()", "int octet(int)", "boolean on()", "int status(int)"};
    private static final Check check = new Check("FaceTest");
    private static final Set<String> publicNames = new TreeSet<>();

    public static void main(String[] args) {
        Class<?> face = DearLetters.class;
        check.due("public final class", face.getModifiers(), Modifier.PUBLIC | Modifier.FINAL);
        check.due("no class above", face.getSuperclass() == Object.class, true);
        check.due("no interfaces", face.getInterfaces().length, 0);
        methods(face);
        fields(face);
        Constructor<?>[] makers = face.getDeclaredConstructors();
        check.due("one constructor", makers.length, 1);
        check.due("a public constructor without parameters", makers[0].getModifiers(), Modifier.PUBLIC);
        check.due("a public constructor without parameters", makers[0].getParameterCount(), 0);
        for (Class<?> inside : face.getDeclaredClasses()) {
            inside(inside);
        }
        check.finish();
    }

    private static String told(Method method) {
        StringBuilder all = new StringBuilder(method.getReturnType().getName());
        all.append(' ').append(method.getName()).append('(');
        for (int k = 0; k < method.getParameterCount(); k++) {
            all.append(k == 0 ? "" : ",").append(method.getParameterTypes()[k].getName());
        }
        return all.append(')').toString();
    }

    private static void methods(Class<?> face) {
        Set<String> seen = new TreeSet<>();
        for (Method method : face.getDeclaredMethods()) {
            if (Modifier.isPublic(method.getModifiers())) {
                seen.add(told(method));
                publicNames.add(method.getName());
                check.due(told(method) + " is public alone", method.getModifiers(), Modifier.PUBLIC);
            } else {
                check.due(told(method) + " is private", Modifier.isPrivate(method.getModifiers()), true);
            }
        }
        Set<String> due = new TreeSet<>(Arrays.asList(METHODS));
        check.due("the methods are " + seen + ", due are " + due, seen.equals(due), true);
        noOtherBears(face);
    }

    private static void noOtherBears(Class<?> owner) {
        for (Method method : owner.getDeclaredMethods()) {
            boolean bears = publicNames.contains(method.getName()) && !Modifier.isPublic(method.getModifiers());
            check.due(owner.getName() + "." + told(method) + " bears a public name", bears, false);
            check.due(told(method) + " parameters", method.getParameterCount() <= 7, true);
        }
    }

    private static void fields(Class<?> face) {
        int constants = 0;
        int own = 0;
        for (Field field : face.getDeclaredFields()) {
            boolean isPublic = Modifier.isPublic(field.getModifiers());
            boolean isStatic = Modifier.isStatic(field.getModifiers());
            constants += isPublic ? 1 : 0;
            own += isStatic ? 0 : 1;
            check.due(field + " can be seen", !isPublic && !Modifier.isPrivate(field.getModifiers()), false);
            check.due(field + " is a constant", isStatic && !Modifier.isFinal(field.getModifiers()), false);
        }
        check.due("two public constants", constants, 2);
        check.due("some twenty fields", own <= 20, true);
        check.due("NONE", DearLetters.NONE, -1);
        check.due("NOTHING", DearLetters.NOTHING, -1000000000000000L);
    }

    private static void inside(Class<?> inside) {
        check.due(inside + " is static", Modifier.isStatic(inside.getModifiers()), true);
        check.due(inside + " can be seen", Modifier.isPublic(inside.getModifiers()), false);
        noOtherBears(inside);
        int own = 0;
        for (Field field : inside.getDeclaredFields()) {
            own += Modifier.isStatic(field.getModifiers()) ? 0 : 1;
            boolean changes = Modifier.isStatic(field.getModifiers()) && !Modifier.isFinal(field.getModifiers());
            check.due(field + " is a constant", changes, false);
        }
        check.due(inside + " has some twenty fields", own <= 20, true);
    }
}
