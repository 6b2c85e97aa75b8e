import java.io.IOException;
import java.lang.reflect.Method;
import java.lang.reflect.Modifier;
import java.nio.file.Files;
import java.nio.file.Path;
import java.util.Set;
import java.util.TreeSet;
import java.util.regex.Matcher;
import java.util.regex.Pattern;

/** The example in README.md: every line's answer is the one that is written behind it, and no call is left out. */
public final class CommonBasesReadme {
    private static final Pattern NEW = Pattern.compile("CommonBases x = new CommonBases\\((-?\\d+)\\);.*");
    private static final Pattern CALL = Pattern.compile("x\\.(\\w+)\\(([-0-9, ]*)\\);\\s*// ([-\\w]+).*");

    private static int wrong = 0;

    public static void main(String[] args) throws IOException, ReflectiveOperationException {
        String text = Files.readString(Path.of("README.md"));
        int from = text.indexOf("```java\n") + 8;
        Set<String> called = play(text.substring(from, text.indexOf("```", from)).split("\n"));
        for (Method method : CommonBases.class.getDeclaredMethods()) {
            if (Modifier.isPublic(method.getModifiers()) && !called.contains(method.getName())) {
                tell("the example has no call of " + method.getName());
            }
        }
        System.out.println(wrong == 0 ? "the example is as due" : wrong + " things in the example are not as due");
        if (wrong != 0) {
            System.exit(1);
        }
    }

    private static void tell(String what) {
        wrong++;
        System.out.println(what);
    }

    private static Set<String> play(String[] lines) throws ReflectiveOperationException {
        Set<String> called = new TreeSet<>();
        CommonBases x = null;
        for (String line : lines) {
            Matcher start = NEW.matcher(line);
            Matcher call = CALL.matcher(line);
            if (start.matches()) {
                x = new CommonBases(Integer.parseInt(start.group(1)));
            } else if (call.matches()) {
                called.add(call.group(1));
                String got = answer(x, call.group(1), call.group(2));
                if (!got.equals(call.group(3))) {
                    tell(line + " -- but it answered " + got);
                }
            } else {
                tell(line + " -- is no call with its answer");
            }
        }
        return called;
    }

    private static String answer(CommonBases x, String name, String text) throws ReflectiveOperationException {
        String[] words = text.isEmpty() ? new String[0] : text.split(", ");
        Class<?>[] types = new Class<?>[words.length];
        Object[] numbers = new Object[words.length];
        for (int i = 0; i < words.length; i++) {
            types[i] = int.class;
            numbers[i] = Integer.valueOf(words[i]);
        }
        return String.valueOf(CommonBases.class.getMethod(name, types).invoke(x, numbers));
    }
}
