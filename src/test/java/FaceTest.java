import java.lang.reflect.Constructor;
import java.lang.reflect.Field;
import java.lang.reflect.Method;
import java.lang.reflect.Modifier;
import java.util.ArrayList;
import java.util.Arrays;
import java.util.List;

/** The public face, as the document writes it, and nothing beside it. */
public final class FaceTest {
    private static final String IOOBE = "IndexOutOfBoundsException", IAE = "IllegalArgumentException",
            ISE = "IllegalStateException";

    private static final String[] METHODS = {
        "int addScene(int,int,int,int,int) " + IAE + "," + ISE,
        "boolean setOut(int,boolean) " + IOOBE,
        "boolean setChild(int,boolean) " + IOOBE,
        "int setRates(int,int) " + IAE,
        "boolean hold(boolean) ",
        "int shoot(boolean) " + ISE,
        "int approve(int,int) " + IOOBE + "," + IAE,
        "int grant(int) " + IAE,
        "int bill(int,int) " + IOOBE + "," + IAE + "," + ISE,
        "int loan(int,int) " + IOOBE + "," + IAE + "," + ISE,
        "int part(int,int,int) " + IOOBE + "," + IAE + "," + ISE,
        "int income(int) " + IAE,
        "int today() ",
        "int shot() ",
        "int days() ",
        "int daysByAll() " + ISE,
        "int planned(int) " + IOOBE,
        "int begins(int) " + IOOBE,
        "int left(int) " + IOOBE,
        "int fee() ",
        "int costs() ",
        "int open() ",
        "int openOf(int) " + IOOBE,
        "int got(int) " + IOOBE,
        "int house() ",
    };

    public static void main(String[] args) {
        Checks.due("public final", Modifier.PUBLIC | Modifier.FINAL, Scripthouse.class.getModifiers());
        Checks.due("NONE", -1, Scripthouse.NONE);
        Checks.due("ANY", 0, Scripthouse.ANY);
        Checks.due("DAY", 1, Scripthouse.DAY);
        Checks.due("NIGHT", 2, Scripthouse.NIGHT);
        methods();
        fields();
        for (Constructor<?> c : Scripthouse.class.getDeclaredConstructors()) {
            Checks.due("constructor", Modifier.PUBLIC, c.getModifiers());
            Checks.due("constructor's parameters", 0, c.getParameterCount());
        }
        for (Class<?> c : Scripthouse.class.getDeclaredClasses()) {
            Checks.due(c.getName() + " is static", true, Modifier.isStatic(c.getModifiers()));
            Checks.due(c.getName() + " is not public", false, Modifier.isPublic(c.getModifiers()));
        }
        Checks.end("FaceTest");
    }

    private static void methods() {
        List<String> want = new ArrayList<>(Arrays.asList(METHODS));
        List<String> publicNames = new ArrayList<>();
        for (String line : METHODS) {
            publicNames.add(line.substring(line.indexOf(' ') + 1, line.indexOf('(')));
        }
        for (Method m : Scripthouse.class.getDeclaredMethods()) {
            if (Modifier.isPrivate(m.getModifiers())) {
                Checks.due("private " + m.getName(), false, publicNames.contains(m.getName()));
            } else {
                Checks.due("method " + line(m), true, want.remove(line(m)));
                Checks.due("public " + m.getName(), Modifier.PUBLIC, m.getModifiers());
            }
        }
        Checks.due("methods that lack " + want, 0, want.size());
    }

    private static String line(Method m) {
        return m.getReturnType() + " " + m.getName() + "(" + names(m.getParameterTypes()) + ") "
                + names(m.getExceptionTypes());
    }

    private static String names(Class<?>[] types) {
        StringBuilder text = new StringBuilder();
        for (Class<?> type : types) {
            text.append(text.length() == 0 ? "" : ",").append(type.getSimpleName());
        }
        return text.toString();
    }

    private static void fields() {
        List<String> constants = Arrays.asList("NONE", "ANY", "DAY", "NIGHT");
        for (Field f : Scripthouse.class.getDeclaredFields()) {
            boolean isConstant = constants.contains(f.getName());
            Checks.due(f.getName() + " is private", !isConstant, Modifier.isPrivate(f.getModifiers()));
            if (isConstant || Modifier.isStatic(f.getModifiers())) {
                Checks.due(f.getName() + " is final", true, Modifier.isFinal(f.getModifiers()));
            }
        }
    }
}
