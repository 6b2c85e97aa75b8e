import java.lang.reflect.Constructor;
import java.lang.reflect.Field;
import java.lang.reflect.Method;
import java.lang.reflect.Modifier;
import java.util.Arrays;
import java.util.TreeSet;

/** The public face: every member that the document names, and no other that is not private. */
public final class CommonBasesFace {
    private static final String[] METHODS = {
        "boolean uniform(int, int)", "boolean graphic(int)", "boolean edge(int, int, int, int)",
        "boolean classes(int)", "boolean part(int, int, int)", "boolean cap(int, int, int)",
        "boolean linear(int, int)", "boolean entry(int, int, int, int)", "boolean weight(int, int)",
        "int independent(int, int)", "int rank(int, int)", "int span(int, int)",
        "int circuit(int, int, int)", "int best(int)", "int common(int)", "int weightOf(int)",
        "int largest()", "int witness()", "int joint()", "int jointWitness()",
    };
    private static int wrong = 0;

    private static void due(String what, Object got, Object want) {
        if (!want.equals(got)) {
            wrong++;
            System.out.println(what + ": " + got + ", due is " + want);
        }
    }

    public static void main(String[] args) {
        due("the class is public and final", CommonBases.class.getModifiers(), Modifier.PUBLIC | Modifier.FINAL);
        due("the package", CommonBases.class.getPackageName(), "");
        due("BAD", CommonBases.BAD, -1);
        due("NONE", CommonBases.NONE, -2);
        checkMethods();
        checkConstructors();
        checkFields();
        checkClassesInside();
        System.out.println(wrong == 0 ? "the face is as due" : wrong + " parts of the face are not as due");
        if (wrong != 0) {
            System.exit(1);
        }
    }

    private static void checkMethods() {
        TreeSet<String> open = new TreeSet<>();
        TreeSet<String> openNames = new TreeSet<>();
        for (Method m : CommonBases.class.getDeclaredMethods()) {
            if (!Modifier.isPrivate(m.getModifiers())) {
                due("modifiers of " + m.getName(), m.getModifiers(), Modifier.PUBLIC);
                due("exceptions of " + m.getName(), m.getExceptionTypes().length, 0);
                open.add(m.getReturnType() + " " + m.getName() + parameters(m.getParameterTypes()));
                openNames.add(m.getName());
            }
        }
        due("methods", open, new TreeSet<>(Arrays.asList(METHODS)));
        for (Method m : CommonBases.class.getDeclaredMethods()) {
            if (Modifier.isPrivate(m.getModifiers())) {
                due("a private method has the public name " + m.getName(), openNames.contains(m.getName()), false);
            }
        }
    }

    private static void checkConstructors() {
        Constructor<?>[] all = CommonBases.class.getDeclaredConstructors();
        due("number of constructors", all.length, 1);
        due("constructor", parameters(all[0].getParameterTypes()), "(int)");
        due("constructor's modifiers", all[0].getModifiers(), Modifier.PUBLIC);
    }

    private static void checkFields() {
        TreeSet<String> open = new TreeSet<>();
        for (Field f : CommonBases.class.getDeclaredFields()) {
            if (!Modifier.isPrivate(f.getModifiers())) {
                open.add(Modifier.toString(f.getModifiers()) + " " + f.getType() + " " + f.getName());
            }
            if (Modifier.isStatic(f.getModifiers())) {
                due(f.getName() + " is final", Modifier.isFinal(f.getModifiers()), true);
            }
        }
        due("fields", open, new TreeSet<>(Arrays.asList(
                "public static final int BAD", "public static final int NONE")));
    }

    private static void checkClassesInside() {
        for (Class<?> c : CommonBases.class.getDeclaredClasses()) {
            due(c.getName() + " is static", Modifier.isStatic(c.getModifiers()), true);
            due(c.getName() + " is open", Modifier.isPublic(c.getModifiers()) || Modifier.isProtected(c.getModifiers()), false);
        }
    }

    private static String parameters(Class<?>[] types) {
        return Arrays.toString(types).replace('[', '(').replace(']', ')');
    }
}
