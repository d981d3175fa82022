import java.io.IOException;
import java.lang.reflect.Field;
import java.lang.reflect.Method;
import java.lang.reflect.Modifier;
import java.nio.file.Files;
import java.nio.file.Path;
import java.util.Arrays;
import java.util.List;
import java.util.TreeSet;
import java.util.regex.Matcher;
import java.util.regex.Pattern;

/** The document's public face, and what of LANGUAGE.md can be seen in the text and in the class. */
public final class LanguageTest {
    private static final Due due = new Due("LanguageTest");
    private static final List<String> WORDS = List.of("throw", "throws", "try", "catch", "finally", "synchronized", "assert", "import", "package",
        "volatile", "native", "protected", "float", "double", "Object", "Exception", "Thread", "Random", "System.out", "System.nanoTime",
        "equals", "hashCode", "toString", "Exact", "var", "instanceof");
    private static final List<String> FACE = List.of("feed(int,int,int,int,int)int", "mark(int)int", "fault()int", "count(int)int",
        "part(int,int,int)int", "write(int)int", "out(int)int", "way(int)boolean", "sorts(int,int)int", "shelf(int,boolean)int",
        "book(int,int,int,int)int", "stand(int,int,int)boolean", "dummy(int,int,int)boolean", "off(int)boolean", "tell(int,int)int",
        "place(int,int)int", "room(int,int)int", "run(int,boolean)boolean", "seen(int)int", "read(int)int", "order(boolean,int)int",
        "fewest()int", "move()int", "where(int)int", "between(int,int)int", "done()int", "list(int,int)boolean", "forget(int)boolean",
        "listed(int)int", "found(int,int,int)int", "check(int)int", "grow(int,int,int)int", "full()int", "shift(int,int,int,int)int",
        "plan(int)int", "lift()boolean", "image(int)boolean", "again(int)boolean");

    public static void main(String[] args) throws IOException {
        String text = Files.readString(Path.of("src/main/java/ShelfCart.java"));
        String code = text.replaceAll("(?s)/\\*.*?\\*/", " ").replaceAll("//[^\n]*", " ");
        words(code);
        methods(code);
        face();
        classes();
        due.end();
    }

    private static void words(String code) {
        for (String word : WORDS) {
            due.no("the word " + word, Pattern.compile("\\b" + Pattern.quote(word) + "\\b").matcher(code).find());
        }
        due.no("lambdas", code.contains("->"));
        due.no("method references", code.contains("::"));
        due.no("signs beyond 127", code.chars().anyMatch(sign -> sign > 127));
        due.no("strings", code.contains("\""));
    }

    private static void methods(String code) {
        Matcher head = Pattern.compile("\n( +)(?:public |private |static )*[\\w\\[\\]]+ (\\w+)\\(([^)]*)\\) \\{\n").matcher(code);
        int seen = 0;
        while (head.find()) {
            seen++;
            String body = code.substring(head.end(), code.indexOf("\n" + head.group(1) + "}", head.end()));
            due.yes(head.group(2) + " is short", body.split("\n").length <= 60);
            due.yes(head.group(2) + " takes few", head.group(3).split(",").length <= 7);
        }
        due.yes("methods were seen", seen > 100);
    }

    private static void face() {
        due.yes("final and public", Modifier.toString(ShelfCart.class.getModifiers()).equals("public final"));
        due.is("NONE", ShelfCart.NONE, -1);
        TreeSet<String> open = new TreeSet<>();
        for (Method method : ShelfCart.class.getDeclaredMethods()) {
            if (!Modifier.isPrivate(method.getModifiers())) {
                open.add(Modifier.toString(method.getModifiers()) + " " + told(method));
            }
        }
        TreeSet<String> wanted = new TreeSet<>();
        FACE.forEach(method -> wanted.add("public " + method));
        due.is("the methods", open.toString(), wanted.toString());
        for (Field field : ShelfCart.class.getDeclaredFields()) {
            due.yes("field " + field.getName(), Modifier.isPrivate(field.getModifiers()) || field.getName().equals("NONE"));
        }
        due.is("constructors", ShelfCart.class.getDeclaredConstructors().length, 1);
    }

    private static String told(Method method) {
        StringBuilder types = new StringBuilder();
        for (Class<?> type : method.getParameterTypes()) {
            types.append(types.length() == 0 ? "" : ",").append(type.getName());
        }
        return method.getName() + "(" + types + ")" + method.getReturnType().getName();
    }

    private static void classes() {
        Class<?>[] inside = ShelfCart.class.getDeclaredClasses();
        due.yes("some twelve classes", inside.length + 1 <= 12);
        TreeSet<String> names = new TreeSet<>();
        FACE.forEach(method -> names.add(method.substring(0, method.indexOf('('))));
        checkFields(ShelfCart.class);
        for (Class<?> own : inside) {
            due.yes(own.getName() + " is static", Modifier.isStatic(own.getModifiers()) && !Modifier.isPublic(own.getModifiers()));
            due.is(own.getName() + " has no classes inside", own.getDeclaredClasses().length, 0);
            checkFields(own);
            for (Method method : own.getDeclaredMethods()) {
                due.no(own.getName() + " has a method of a public one's name: " + method.getName(), names.contains(method.getName()));
            }
        }
    }

    private static void checkFields(Class<?> own) {
        long fields = Arrays.stream(own.getDeclaredFields()).filter(field -> !Modifier.isStatic(field.getModifiers())).count();
        due.yes(own.getName() + " has some twenty fields", fields <= 20);
        for (Field field : own.getDeclaredFields()) {
            boolean constant = !Modifier.isStatic(field.getModifiers()) || Modifier.isFinal(field.getModifiers());
            due.yes(field.getName() + " is final, if static", constant);
        }
    }
}
