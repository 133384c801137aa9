import java.io.IOException;
import java.lang.reflect.Field;
import java.nio.file.DirectoryStream;
import java.nio.file.Files;
import java.nio.file.Path;
import java.util.ArrayList;
import java.util.List;
import java.util.TreeSet;
import java.util.regex.Matcher;
import java.util.regex.Pattern;

/** README.md: its examples are run here, line by line, and its tables are held against what they tell of. */
public final class ReadmeTest {
    private static final Pattern TOLD = Pattern.compile("(?:int|long) (\\w+) = .*; +// (-?\\d+).*");
    private static final Pattern CODE = Pattern.compile("(?m)^\\| (-\\d) \\| `(\\w+)` \\|");
    private static final Pattern TEST = Pattern.compile("(?m)^\\| `(\\w+)` \\|");

    private static String readme;
    private static List<String> examples;

    public static void main(String[] args) throws IOException, IllegalAccessException {
        readme = Files.readString(Path.of("README.md"));
        examples = blocks(readme, "```java\n", "```");
        examplesAreThoseRunHere();
        sessionKey();
        privateKey();
        wrappedKey();
        codes();
        attributeBits();
        everyTestIsNamed();
        Due.end();
    }

    private static List<String> blocks(String text, String from, String to) {
        List<String> found = new ArrayList<>();
        int start = text.indexOf(from);
        while (start >= 0) {
            int end = text.indexOf(to, start + from.length());
            found.add(text.substring(start + from.length(), end));
            start = text.indexOf(from, end);
        }
        return found;
    }

    /** Else the answers looked at below would not be those of the lines that README.md shows. */
    private static void examplesAreThoseRunHere() throws IOException {
        String source = Files.readString(Path.of("src/test/java/ReadmeTest.java"));
        List<String> run = blocks(source, " // As in README.md:\n", " // So far.");
        Due.is("examples", examples.size(), run.size());
        for (int i = 0; i < run.size() && i < examples.size(); i++) {
            Due.text("example " + i, withoutComments(examples.get(i)), withoutComments(run.get(i)));
        }
    }

    private static String withoutComments(String code) {
        StringBuilder text = new StringBuilder();
        for (String line : code.split("\n")) {
            String left = line.replaceAll("//.*", "").strip();
            if (!left.isEmpty()) {
                text.append(left).append('\n');
            }
        }
        return text.toString();
    }

    /** Every variable of an example is looked at, in the order of its lines. */
    private static void asTold(int example, long... answers) {
        int at = 0;
        for (String line : examples.get(example).split("\n")) {
            Matcher told = TOLD.matcher(line);
            if (told.matches()) {
                long got = at < answers.length ? answers[at] : Long.MIN_VALUE;
                Due.is("example " + example + ", " + told.group(1), got, Long.parseLong(told.group(2)));
                at++;
            } else {
                Due.holds("an answer is told: " + line, line.startsWith("HandleToken token = "));
            }
        }
        Due.is("answers of example " + example, at, answers.length);
    }

    private static void sessionKey() {
        // As in README.md:
        HandleToken token = new HandleToken(1111, 9999);
        int s = token.open(true);
        int h = token.create(s, 16 + 32, 305419896);
        long word = token.encrypt(s, h, 7);
        long back = token.decrypt(s, h, (int) word);
        int left = token.limit(s, h, 4 + 32);
        long shown = token.read(s, h);
        int closed = token.close(s);
        // So far.
        asTold(0, s, h, word, back, left, shown, closed);
        Due.is("gone with its session", token.status(4), 0);
    }

    private static void privateKey() {
        // As in README.md:
        HandleToken token = new HandleToken(1111, 9999);
        int s = token.open(true);
        int early = token.generate(s, 1 + 2 + 4 + 64);
        int wrong = token.login(s, false, 1234);
        int user = token.login(s, false, 1111);
        int h = token.generate(s, 1 + 2 + 4 + 64);
        int has = token.attributes(s, h);
        int out = token.logout(s);
        long hidden = token.sign(s, h, 100);
        int exist = token.status(4);
        // So far.
        asTold(1, s, early, wrong, user, h, has, out, hidden, exist);
        Due.is("no failures", token.status(2), 0);
    }

    private static void wrappedKey() {
        // As in README.md:
        HandleToken token = new HandleToken(1111, 9999);
        int s = token.open(true);
        int by = token.create(s, 1 + 128 + 256, 99);
        int h = token.create(s, 4 + 8 + 64, 77);
        long refused = token.wrap(s, by, h);
        int officer = token.login(s, true, 9999);
        int trusted = token.trust(s, by);
        long blob = token.wrap(s, by, h);
        int again = token.unwrap(s, by, blob, 4 + 64);
        int bad = token.unwrap(s, by, blob + 1, 4 + 64);
        // So far.
        asTold(2, s, by, h, refused, officer, trusted, blob, again, bad);
        Due.is("the value of h", token.sign(s, again, 5), token.sign(s, h, 5));
    }

    private static void codes() throws IllegalAccessException {
        TreeSet<String> told = new TreeSet<>();
        Matcher row = CODE.matcher(readme);
        while (row.find()) {
            told.add(row.group(2) + " " + row.group(1));
        }
        TreeSet<String> due = new TreeSet<>();
        for (Field field : HandleToken.class.getFields()) {
            due.add(field.getName() + " " + field.getInt(null));
        }
        Due.text("the codes", told + "\n", due + "\n");
    }

    private static void attributeBits() throws IllegalAccessException {
        int found = 0;
        for (Field field : Due.class.getDeclaredFields()) {
            if (field.getType() == int.class && field.getName().matches("[A-Z]+")) {
                String bit = "\\| " + field.getInt(null) + " \\| (may )?" + field.getName() + "\\b";
                Due.holds("the bit of " + field.getName(), Pattern.compile(bit).matcher(readme).find());
                found++;
            }
        }
        Due.is("attributes", found, 13);
    }

    private static void everyTestIsNamed() throws IOException {
        TreeSet<String> told = new TreeSet<>();
        Matcher row = TEST.matcher(readme);
        while (row.find()) {
            told.add(row.group(1));
        }
        TreeSet<String> due = new TreeSet<>();
        try (DirectoryStream<Path> files = Files.newDirectoryStream(Path.of("src/test/java"), "*Test.java")) {
            for (Path file : files) {
                due.add(file.getFileName().toString().replace(".java", ""));
            }
        }
        Due.text("the tests", told + "\n", due + "\n");
    }
}
