import java.io.ByteArrayOutputStream;
import java.io.IOException;
import java.io.PrintStream;
import java.lang.reflect.Method;
import java.lang.reflect.Modifier;
import java.nio.file.Files;
import java.nio.file.Path;
import java.util.ArrayList;
import java.util.List;
import java.util.regex.Matcher;
import java.util.regex.Pattern;

/** What README.md tells of the use of the class is so: its example and the answers behind the calls, and its table. */
final class ReadmeTests {
    private static final Pattern ANSWER = Pattern.compile("System\\.out\\.println\\(.*\\);\\s*// ([-\\w]+)(: .*)?");
    private static final Pattern ROW = Pattern.compile("\\| `(\\w+)\\(([^)]*)\\)` \\|[^|]*\\|[^|]*\\|([^|]*)\\|");

    private ReadmeTests() {
    }

    static void run() {
        String page = read("README.md");
        String example = read("src/test/java/Example.java");
        Check.yes("README.md quotes the example whole", page.contains("```java\n" + example + "```\n"));
        Check.same("the example prints what stands behind its calls", answersIn(example), String.join("\n", printed()));
        table(page);
    }

    private static String answersIn(String example) {
        List<String> answers = new ArrayList<>();
        for (String line : example.split("\n")) {
            if (line.contains("System.out.println")) {
                Matcher answer = ANSWER.matcher(line.trim());
                Check.yes("an answer stands behind " + line.trim(), answer.matches());
                answers.add(answer.matches() ? answer.group(1) : "");
            }
        }
        return String.join("\n", answers);
    }

    private static List<String> printed() {
        PrintStream before = System.out;
        ByteArrayOutputStream kept = new ByteArrayOutputStream();
        System.setOut(new PrintStream(kept, true));
        try {
            Example.main(new String[0]);
        } finally {
            System.setOut(before);
        }
        return kept.toString().lines().toList();
    }

    /** Each call of the face has a row, with as many arguments as it has, and with what it may throw. */
    private static void table(String page) {
        List<String> told = new ArrayList<>();
        Matcher row = ROW.matcher(page);
        while (row.find()) {
            int arguments = row.group(2).isEmpty() ? 0 : row.group(2).split(",").length;
            told.add(row.group(1) + " " + arguments + " " + row.group(3).trim());
        }
        List<String> due = new ArrayList<>();
        for (Method method : LetterAuction.class.getDeclaredMethods()) {
            if (Modifier.isPublic(method.getModifiers())) {
                due.add(method.getName() + " " + method.getParameterCount() + " " + thrown(method));
            }
        }
        told.sort(null);
        due.sort(null);
        Check.same("the calls in the table of README.md", due.toString(), told.toString());
    }

    private static String thrown(Method method) {
        List<String> names = new ArrayList<>();
        for (Class<?> exception : method.getExceptionTypes()) {
            String name = exception.getSimpleName().replace("Illegal", "").toLowerCase();
            names.add(name.replaceAll("(outofbounds)?exception", ""));
        }
        return String.join(", ", names);
    }

    private static String read(String name) {
        try {
            return Files.readString(Path.of(name));
        } catch (IOException e) {
            return "";
        }
    }
}
