import java.io.IOException;
import java.lang.reflect.InvocationTargetException;
import java.lang.reflect.Method;
import java.lang.reflect.Modifier;
import java.nio.file.Files;
import java.nio.file.Path;
import java.util.regex.Matcher;
import java.util.regex.Pattern;

/** README.md: its example answers what is written there, and each call of the face has its row. */
public final class ReadmeTest {
    private static final Due due = new Due("ReadmeTest");
    private static final Pattern CALL = Pattern.compile("cart\\.(\\w+)\\(([^)]*)\\); +// (true|false|-?\\d+)");

    public static void main(String[] args) throws IOException, ReflectiveOperationException {
        String readme = Files.readString(Path.of("README.md"));
        example(readme);
        rows(readme);
        due.end();
    }

    private static void example(String readme) throws ReflectiveOperationException {
        ShelfCart cart = new ShelfCart();
        Matcher call = CALL.matcher(readme);
        int calls = 0;
        while (call.find()) {
            due.is(call.group(1), answer(cart, call.group(1), call.group(2)), call.group(3));
            calls++;
        }
        due.is("calls of the example", calls, readme.split("\ncart\\.\\w").length - 1);
        due.yes("an example is there", calls > 0);
    }

    private static String answer(ShelfCart cart, String name, String told) throws IllegalAccessException, InvocationTargetException {
        Method method = named(name);
        String[] words = told.isEmpty() ? new String[0] : told.split(", ");
        Object[] arguments = new Object[words.length];
        for (int k = 0; k < words.length; k++) {
            boolean number = method.getParameterTypes()[k] == int.class;
            arguments[k] = number ? (Object) Integer.decode(words[k]) : (Object) Boolean.valueOf(words[k]);
        }
        return String.valueOf(method.invoke(cart, arguments));
    }

    private static Method named(String name) {
        for (Method method : ShelfCart.class.getDeclaredMethods()) {
            if (method.getName().equals(name)) {
                return method;
            }
        }
        throw new IllegalStateException("README.md calls " + name + ", which is not there");
    }

    /** A row begins with the call and as many names as it takes arguments. */
    private static void rows(String readme) {
        for (Method method : ShelfCart.class.getDeclaredMethods()) {
            if (Modifier.isPublic(method.getModifiers())) {
                Matcher row = Pattern.compile("\n\\| `" + method.getName() + "\\(([^)]*)\\)` \\|").matcher(readme);
                boolean there = row.find();
                due.yes("a row of " + method.getName(), there);
                int names = !there || row.group(1).isEmpty() ? 0 : row.group(1).split(", ").length;
                due.is("what " + method.getName() + " takes", names, method.getParameterCount());
            }
        }
    }
}
