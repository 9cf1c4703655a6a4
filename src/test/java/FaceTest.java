import java.io.IOException;
import java.lang.reflect.Constructor;
import java.lang.reflect.Field;
import java.lang.reflect.Member;
import java.lang.reflect.Method;
import java.lang.reflect.Modifier;
import java.util.ArrayList;
import java.util.Arrays;
import java.util.List;

/** "The public face": each member that it shows is there with its throws clause in order, and no other one is. */
public final class FaceTest {
    private static final Checks CHECKS = new Checks();
    private static final String CONSTANT = "public static final int ";

    public static void main(String[] args) throws IOException, IllegalAccessException {
        List<String> due = due();
        List<String> got = got();
        CHECKS.due("members of the document's face", due.size(), 8 + 1 + 31);
        for (String member : due) {
            CHECKS.holds("the face shows it and the class has it: " + member, got.contains(member));
        }
        for (String member : got) {
            CHECKS.holds("the class has it and the face shows it: " + member, due.contains(member));
        }
        classIsAsShown();
        eachOfItsOwn();
        CHECKS.end();
    }

    private static List<String> due() throws IOException {
        List<String> due = new ArrayList<>();
        for (String line : Document.face()) {
            if (line.startsWith(CONSTANT)) {
                String constants = line.substring(CONSTANT.length(), line.length() - 1);
                for (String constant : constants.split(", ")) {
                    due.add(CONSTANT + constant);
                }
            }
            if (line.equals("public Stowfinish();")) {
                due.add("public Stowfinish()");
            }
        }
        for (Document.Method method : Document.methods()) {
            due.add("public " + method.answer + " " + method.name + told(method.types, method.exceptions));
        }
        return due;
    }

    /** What the class shows to others. */
    private static List<String> got() throws IllegalAccessException {
        List<String> got = new ArrayList<>();
        for (Field field : Stowfinish.class.getDeclaredFields()) {
            if (isShown(field)) {
                Object value = Modifier.isStatic(field.getModifiers()) ? field.get(null) : "one for each object";
                got.add(start(field) + field.getType().getSimpleName() + " " + field.getName() + " = " + value);
            }
        }
        for (Constructor<?> made : Stowfinish.class.getDeclaredConstructors()) {
            if (isShown(made)) {
                got.add(start(made) + made.getName() + told(names(made.getParameterTypes()), names(made.getExceptionTypes())));
            }
        }
        for (Method method : Stowfinish.class.getDeclaredMethods()) {
            if (isShown(method)) {
                got.add(start(method) + method.getReturnType().getSimpleName() + " " + method.getName()
                        + told(names(method.getParameterTypes()), names(method.getExceptionTypes())));
            }
        }
        return got;
    }

    private static boolean isShown(Member member) {
        return !Modifier.isPrivate(member.getModifiers()) && !member.isSynthetic();
    }

    private static String start(Member member) {
        return Modifier.toString(member.getModifiers()) + " ";
    }

    private static List<String> names(Class<?>[] types) {
        return Arrays.stream(types).map(Class::getSimpleName).toList();
    }

    private static String told(List<String> types, List<String> exceptions) {
        String thrown = exceptions.isEmpty() ? "" : " throws " + String.join(", ", exceptions);
        return "(" + String.join(", ", types) + ")" + thrown;
    }

    private static void classIsAsShown() {
        CHECKS.due("the class", Modifier.toString(Stowfinish.class.getModifiers()), "public final");
        CHECKS.due("what it extends", Stowfinish.class.getSuperclass().getName(), "java.lang.Object");
        CHECKS.due("what it implements", Stowfinish.class.getInterfaces().length, 0);
        CHECKS.due("its package", Stowfinish.class.getPackageName(), "");
        for (Class<?> inside : Stowfinish.class.getDeclaredClasses()) {
            int shown = inside.getModifiers() & (Modifier.PUBLIC | Modifier.PROTECTED);
            CHECKS.due("a class inside that others see: " + inside.getName(), shown, 0);
        }
    }

    /** Promise 1: a new object has no blocks, also when others have; what is done with one is not done with another. */
    private static void eachOfItsOwn() {
        Edge one = new Edge(CHECKS, "promise 1: one object").calls("hall(12, 1000) 6", "crane(0, 1000) 200",
                "welder(0, 0) 10", "draw(7) 1", "block(0, 10, 0, 5, 0, 8) 0", "erect(0, 0) 0",
                "block(11, 11, 0, 5, 0, 8) 1", "erect(1, 0) 0", "test(0) GOOD", "paint(0) 1", "fit(0, 3) 3",
                "hole(1, false) 0", "pipe(1, 2) 2", "tons() 15", "money() 1180");
        Edge other = new Edge(CHECKS, "promise 1: another object").calls("blocks() 0", "welds() 0", "tons() 0",
                "tonsAnew() 0", "money() 0", "moneyAnew() 0", "isAfloat() false", "cell(0, 0) NONE", "hall(3, 8) 6",
                "crane(11, 9) 200", "welder(0, 100) 10", "draw(9) 1", "block(11, 11, 0, 2, 0, 1) 0", "erect(0, 0) 0",
                "paint(11) 1", "fit(11, 1) 1", "money() 100").noSuch("paint(0)", "roomAt(0, 0)", "test(0)");
        one.calls("blocks() 2", "welds() 1", "weld(0, 0) GOOD", "cell(0, 1) 1", "cell(0, 2) 3", "cell(11, 1) 0",
                "roomAt(0, 0) 1", "roomAt(0, 1) 2", "tons() 15", "tonsAnew() 15", "money() 1180", "moneyAnew() 1180",
                "hall(1, 1) 12", "crane(1, 1) 1000", "welder(0, 1) 0", "draw(1) -865315532");
        other.calls("hall(1, 1) 3", "crane(1, 1) 9", "welder(0, 1) 100", "draw(1) 9", "tons() 3", "money() 100");
    }
}
