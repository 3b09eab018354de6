import java.io.IOException;
import java.lang.reflect.Method;
import java.lang.reflect.Modifier;
import java.nio.charset.StandardCharsets;
import java.nio.file.Files;
import java.nio.file.Path;
import java.util.regex.Matcher;
import java.util.regex.Pattern;

/** What README.md shows is so: its calls, in their order on one object, answer what stands behind them. */
public final class ReadmeTest {
    private static final int CALLS_MOST = 512;
    private static final Pattern BLOCK = Pattern.compile("```java\n(.*?)```", Pattern.DOTALL);
    private static final Pattern PUT = Pattern.compile("put\\(mail, \"(.*)\"\\);");
    private static final Pattern CALL = Pattern.compile("mail\\.([a-z]+)\\((.*)\\); +// (-?[0-9]+|true|false)\\b.*");
    private static final Check check = new Check("ReadmeTest");
    private static DearLetters mail;
    private static int calls;

    public static void main(String[] args) throws IOException, ReflectiveOperationException {
        String readme = text("README.md");
        Matcher blocks = BLOCK.matcher(readme);
        while (blocks.find()) {
            if (blocks.group(1).startsWith("static void put(")) {
                isOurPut(blocks.group(1));
            } else {
                run(blocks.group(1));
            }
        }
        check.due("calls " + calls + " that an object serves", calls > 0 && calls <= CALLS_MOST, true);
        namesAll(readme);
        check.finish();
    }

    private static String text(String path) throws IOException {
        return new String(Files.readAllBytes(Path.of(path)), StandardCharsets.UTF_8);
    }

    /** As README.md shows it. */
    static void put(DearLetters mail, String text) {
        for (int from = 0; from < text.length(); from += 20) {
            int[] n = new int[5];
            for (int k = 0; k < 20; k++) {
                int one = from + k < text.length() ? text.charAt(from + k) : 0;
                n[k / 4] = n[k / 4] << 8 | one;
            }
            int size = mail.feed(n[0], n[1], n[2], n[3], n[4]);
            mail.end(size - Math.max(0, from + 20 - text.length()));
        }
    }

    private static void isOurPut(String block) throws IOException {
        String shown = "    " + block.trim().replace("\n", "\n    ") + "\n";
        check.due("put() of README.md is that of this test", text("src/test/java/ReadmeTest.java").contains(shown), true);
    }

    private static void run(String block) throws ReflectiveOperationException {
        for (String line : block.split("\n")) {
            Matcher put = PUT.matcher(line);
            Matcher call = CALL.matcher(line);
            if (line.equals("DearLetters mail = new DearLetters();")) {
                mail = new DearLetters();
            } else if (put.matches()) {
                String text = put.group(1).translateEscapes();
                calls += 2 * ((text.length() + 19) / 20);
                put(mail, text);
            } else if (call.matches()) {
                calls++;
                String got = answerOf(call.group(1), call.group(2));
                check.due("README.md: " + line + " <- " + got, got.equals(call.group(3)), true);
            } else {
                check.due("a line that this test understands: " + line, false, true);
            }
        }
    }

    private static String answerOf(String name, String list) throws ReflectiveOperationException {
        String[] told = list.isEmpty() ? new String[0] : list.split(", ");
        Object[] numbers = new Object[told.length];
        Class<?>[] types = new Class<?>[told.length];
        for (int k = 0; k < told.length; k++) {
            numbers[k] = told[k].equals("DearLetters.NONE") ? DearLetters.NONE : Integer.parseInt(told[k]);
            types[k] = int.class;
        }
        return DearLetters.class.getMethod(name, types).invoke(mail, numbers).toString();
    }

    private static void namesAll(String readme) {
        for (Method method : DearLetters.class.getDeclaredMethods()) {
            boolean named = Pattern.compile("\\b" + method.getName() + "[(`]").matcher(readme).find();
            check.due("README.md tells of " + method, named || !Modifier.isPublic(method.getModifiers()), true);
        }
    }
}
