import java.lang.reflect.Constructor;
import java.lang.reflect.Field;
import java.lang.reflect.Member;
import java.lang.reflect.Method;
import java.lang.reflect.Modifier;
import java.util.Arrays;
import java.util.TreeSet;

/** The public face of the document, and rule 1 and 5 of LANGUAGE.md. */
public final class FaceTest {
    private static final String[] METHODS = {
        "int face(int,int) IllegalArgumentException IllegalStateException",
        "int wipe()",
        "int part(int,int) IllegalArgumentException IllegalStateException",
        "int redraw(int,int,int) IndexOutOfBoundsException IllegalArgumentException IllegalStateException",
        "int hole(int,int,int,int) IndexOutOfBoundsException IllegalArgumentException IllegalStateException",
        "boolean isNear(int,int) IndexOutOfBoundsException",
        "int told(int,int) IndexOutOfBoundsException IllegalArgumentException",
        "int tool(int,int,int,int,int) IllegalArgumentException IllegalStateException",
        "int trial(int,int,int) IndexOutOfBoundsException IllegalArgumentException",
        "int blank(int,int) IndexOutOfBoundsException",
        "int why(int,int,int,int) IndexOutOfBoundsException IllegalArgumentException",
        "int point(int,int,int,boolean,int,boolean) IndexOutOfBoundsException IllegalArgumentException",
        "int flips(int,int) IndexOutOfBoundsException",
        "int flipsAnew(int,int) IndexOutOfBoundsException",
        "int ordered(int,int,int) IndexOutOfBoundsException",
        "int want(int,int) IndexOutOfBoundsException IllegalArgumentException IllegalStateException",
        "int clear()",
        "long nest(int,int,int,int) IndexOutOfBoundsException IllegalArgumentException",
        "int batch(int,int,int) IndexOutOfBoundsException IllegalArgumentException IllegalStateException",
        "int work(int) IndexOutOfBoundsException IllegalStateException",
        "int batchOf(int,int) IndexOutOfBoundsException IllegalArgumentException",
        "int kits(int) IllegalArgumentException",
        "int take(int,int) IllegalArgumentException IllegalStateException",
    };
    private static final String[] CONSTANTS = {
        "NONE=-1", "UP=0", "DOWN=1", "CAN=0", "SHORT=1", "GAUGE=2", "PUNCH=3", "TABLE=4",
        "CUT=0", "BENT=1", "COATED=2", "SCRAP=3",
    };

    private static final Due DUE = new Due("FaceTest");

    public static void main(String[] args) throws IllegalAccessException {
        checkClass();
        checkMethods();
        checkFields();
        for (Class<?> inner : PressbrakeLane.class.getDeclaredClasses()) {
            int marks = inner.getModifiers();
            DUE.note(!Modifier.isPublic(marks) && !Modifier.isProtected(marks), inner + " is too visible");
            checkStatics(inner);
        }
        DUE.end();
    }

    private static void checkClass() {
        int marks = PressbrakeLane.class.getModifiers();
        DUE.note(Modifier.isPublic(marks) && Modifier.isFinal(marks), "the class is public and final");
        Constructor<?>[] made = PressbrakeLane.class.getDeclaredConstructors();
        DUE.note(made.length == 1 && Modifier.isPublic(made[0].getModifiers())
                && made[0].getParameterCount() == 0, "one public constructor without parameters");
    }

    private static void checkMethods() {
        TreeSet<String> open = new TreeSet<>();
        TreeSet<String> openNames = new TreeSet<>();
        for (Method method : PressbrakeLane.class.getDeclaredMethods()) {
            if (isOpen(method)) {
                open.add(told(method));
                openNames.add(method.getName());
            }
        }
        TreeSet<String> due = new TreeSet<>(Arrays.asList(METHODS));
        DUE.note(open.equals(due), "the face is " + open + ", due is " + due);
        checkPrivateNames(PressbrakeLane.class, openNames);
        for (Class<?> inner : PressbrakeLane.class.getDeclaredClasses()) {
            checkPrivateNames(inner, openNames);
        }
    }

    private static void checkPrivateNames(Class<?> of, TreeSet<String> openNames) {
        for (Method method : of.getDeclaredMethods()) {
            boolean isOfFace = of == PressbrakeLane.class && isOpen(method);
            DUE.note(isOfFace || !openNames.contains(method.getName()), method + " has the name of a public one");
        }
    }

    private static boolean isOpen(Member member) {
        return !Modifier.isPrivate(member.getModifiers()) && !member.isSynthetic();
    }

    private static String told(Method method) {
        StringBuilder text = new StringBuilder();
        if (!Modifier.isPublic(method.getModifiers()) || Modifier.isStatic(method.getModifiers())) {
            text.append("not public, or static: ");
        }
        text.append(method.getReturnType().getSimpleName()).append(' ').append(method.getName()).append('(');
        for (int i = 0; i < method.getParameterCount(); i++) {
            text.append(i == 0 ? "" : ",").append(method.getParameterTypes()[i].getSimpleName());
        }
        text.append(')');
        for (Class<?> thrown : method.getExceptionTypes()) {
            text.append(' ').append(thrown.getSimpleName());
        }
        return text.toString();
    }

    private static void checkFields() throws IllegalAccessException {
        TreeSet<String> open = new TreeSet<>();
        for (Field field : PressbrakeLane.class.getDeclaredFields()) {
            if (isOpen(field)) {
                int marks = field.getModifiers();
                boolean isConstant = Modifier.isPublic(marks) && Modifier.isStatic(marks)
                        && Modifier.isFinal(marks) && field.getType() == int.class;
                open.add(isConstant ? field.getName() + "=" + field.getInt(null) : "no constant: " + field);
            }
        }
        TreeSet<String> due = new TreeSet<>(Arrays.asList(CONSTANTS));
        DUE.note(open.equals(due), "the constants are " + open + ", due is " + due);
        checkStatics(PressbrakeLane.class);
    }

    private static void checkStatics(Class<?> of) {
        for (Field field : of.getDeclaredFields()) {
            int marks = field.getModifiers();
            DUE.note(!Modifier.isStatic(marks) || Modifier.isFinal(marks), field + " is static and not final");
        }
    }
}
