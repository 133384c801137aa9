import java.io.IOException;
import java.lang.reflect.Constructor;
import java.lang.reflect.Field;
import java.lang.reflect.Member;
import java.lang.reflect.Method;
import java.lang.reflect.Modifier;
import java.nio.charset.StandardCharsets;
import java.nio.file.Files;
import java.nio.file.Path;
import java.util.Arrays;
import java.util.TreeSet;

/** The document's public face, and those rules of LANGUAGE.md that can be seen from the class and its text. */
public final class FaceTest {
    private static final String[] METHODS = {
        "int open(boolean)", "int close(int)", "int login(int, boolean, int)", "int logout(int)",
        "int unlock(int, int)", "int create(int, int, int)", "int generate(int, int)",
        "int destroy(int, int)", "int attributes(int, int)", "int limit(int, int, int)",
        "int trust(int, int)", "long read(int, int)", "long encrypt(int, int, int)",
        "long decrypt(int, int, int)", "long sign(int, int, int)", "long wrap(int, int, int)",
        "int unwrap(int, int, long, int)", "int find(int, int)", "int status(int)"
    };
    private static final String[] CODES = {
        "SESSION", "HANDLE", "LOGIN", "READ_ONLY", "ATTRIBUTES", "FULL", "BLOB", "LOCKED", "PIN"
    };
    private static final String[] FORBIDDEN = {
        "import", "package", "throw", "throws", "try", "catch", "synchronized", "assert", "equals", "hashCode",
        "toString", "lambda", "protected", "double", "float"
    };

    public static void main(String[] args) throws IOException, IllegalAccessException {
        constants();
        methods();
        constructor();
        nothingElseIsVisible();
        staticFieldsAreFinal();
        text();
        Due.end();
    }

    private static void constants() throws IllegalAccessException {
        int found = 0;
        for (Field field : HandleToken.class.getDeclaredFields()) {
            if (Modifier.isPublic(field.getModifiers())) {
                int at = Arrays.asList(CODES).indexOf(field.getName());
                Due.holds(field.getName() + " is of the face", at >= 0);
                Due.is(field.getName(), field.getInt(null), -1 - at);
                found++;
            }
        }
        Due.is("constants", found, CODES.length);
    }

    private static void methods() {
        TreeSet<String> missing = new TreeSet<>(Arrays.asList(METHODS));
        TreeSet<String> names = new TreeSet<>();
        for (Method method : HandleToken.class.getDeclaredMethods()) {
            if (Modifier.isPublic(method.getModifiers())) {
                Due.holds(told(method) + " is of the face", missing.remove(told(method)));
                names.add(method.getName());
            }
        }
        Due.is("missing " + missing, missing.size(), 0);
        for (Class<?> one : withThoseInside()) {
            for (Method method : one.getDeclaredMethods()) {
                boolean own = !Modifier.isPublic(method.getModifiers());
                Due.holds(method + " has a name of its own", !own || !names.contains(method.getName()));
                Due.holds(method + " takes at most seven", method.getParameterCount() <= 7);
            }
        }
    }

    private static String told(Method method) {
        StringBuilder text = new StringBuilder(method.getReturnType() + " " + method.getName() + "(");
        String between = "";
        for (Class<?> type : method.getParameterTypes()) {
            text.append(between).append(type);
            between = ", ";
        }
        return text.append(")").toString();
    }

    private static void constructor() {
        Constructor<?>[] all = HandleToken.class.getDeclaredConstructors();
        Due.is("constructors", all.length, 1);
        Due.holds("public", Modifier.isPublic(all[0].getModifiers()));
        Class<?>[] due = {int.class, int.class};
        Due.holds("of two ints", Arrays.equals(all[0].getParameterTypes(), due));
        Due.holds("public class", Modifier.isPublic(HandleToken.class.getModifiers()));
        Due.holds("final class", Modifier.isFinal(HandleToken.class.getModifiers()));
    }

    private static void nothingElseIsVisible() {
        for (Member member : HandleToken.class.getDeclaredFields()) {
            publicOrPrivate(member);
        }
        for (Member member : HandleToken.class.getDeclaredMethods()) {
            publicOrPrivate(member);
        }
        for (Class<?> inside : HandleToken.class.getDeclaredClasses()) {
            int how = inside.getModifiers();
            Due.holds(inside + " is static", Modifier.isStatic(how));
            Due.holds(inside + " is not public", !Modifier.isPublic(how) && !Modifier.isProtected(how));
        }
    }

    private static void publicOrPrivate(Member member) {
        int how = member.getModifiers();
        Due.holds(member + " is public or private", Modifier.isPublic(how) || Modifier.isPrivate(how));
    }

    private static void staticFieldsAreFinal() {
        for (Class<?> one : withThoseInside()) {
            for (Field field : one.getDeclaredFields()) {
                int how = field.getModifiers();
                Due.holds(field + " is final if static", !Modifier.isStatic(how) || Modifier.isFinal(how));
            }
        }
    }

    private static Class<?>[] withThoseInside() {
        Class<?>[] inside = HandleToken.class.getDeclaredClasses();
        Class<?>[] all = Arrays.copyOf(inside, inside.length + 1);
        all[inside.length] = HandleToken.class;
        return all;
    }

    private static void text() throws IOException {
        Path file = Path.of("src/main/java/HandleToken.java");
        String code = Files.readString(file, StandardCharsets.ISO_8859_1)
            .replaceAll("(?s)/\\*.*?\\*/", " ").replaceAll("//[^\n]*", " ");
        TreeSet<String> words = new TreeSet<>(Arrays.asList(code.split("[^A-Za-z0-9_]+")));
        for (String word : FORBIDDEN) {
            Due.holds("without the word " + word, !words.contains(word));
        }
        Due.holds("without lambdas", !code.contains("->"));
        Due.holds("without method references", !code.contains("::"));
        Due.holds("without the library", !code.contains("java.") && !words.contains("System"));
    }
}
