import java.io.IOException;
import java.nio.charset.StandardCharsets;
import java.nio.file.Files;
import java.nio.file.Path;
import java.util.ArrayList;
import java.util.Arrays;
import java.util.HashSet;
import java.util.List;
import java.util.Set;
import java.util.regex.Matcher;
import java.util.regex.Pattern;

/** What of LANGUAGE.md can be seen in the source as a text. */
public final class LanguageTest {
    private static final String SOURCE = "src/main/java/DearLetters.java";
    private static final Set<String> FORBIDDEN = new HashSet<>(Arrays.asList("throw", "throws", "try", "catch",
            "finally", "synchronized", "assert", "package", "native", "volatile", "transient", "protected", "double",
            "float", "Object", "System.out", "Random", "Thread", "record", "var", "yield", "goto"));
    private static final Set<String> LIBRARY = new HashSet<>(Arrays.asList("Arrays.fill", "System.arraycopy",
            "Math.max", "Math.min", "Math.floorDiv", "WORDS.length", "WORDS.charAt"));
    private static final Check check = new Check("LanguageTest");

    public static void main(String[] args) throws IOException {
        String source = new String(Files.readAllBytes(Path.of(SOURCE)), StandardCharsets.ISO_8859_1);
        for (int k = 0; k < source.length(); k++) {
            char sign = source.charAt(k);
            check.due("sign " + k + " of the source", sign == '\n' || sign >= 32 && sign < 127, true);
        }
        String code = source.replaceAll("(?s)/\\*.*?\\*/", "").replaceAll("//[^\n]*", "")
                .replaceAll("\"[^\"]*\"", "\"\"").replaceAll("'[^']*'", "0");
        words(code);
        library(code);
        classes(code);
        lengths(source);
        check.finish();
    }

    private static void words(String code) {
        Matcher matcher = Pattern.compile("[A-Za-z_]+").matcher(code);
        while (matcher.find()) {
            check.due("the word " + matcher.group(), FORBIDDEN.contains(matcher.group()), false);
            check.due("the word " + matcher.group(), matcher.group().endsWith("Exact"), false);
        }
        check.due("no lambda", code.contains("->"), false);
        check.due("no method reference", code.contains("::"), false);
        check.due("no generic types", code.matches("(?s).*<[A-Z].*"), false);
        check.due("no text joined by +", code.matches("(?s).*\"\\s*\\+.*|.*\\+\\s*\".*"), false);
        check.due("no static block", code.matches("(?s).*static\\s*\\{.*"), false);
    }

    private static void library(String code) {
        Matcher imports = Pattern.compile("import ([^;]*);").matcher(code);
        while (imports.find()) {
            check.due("import " + imports.group(1), imports.group(1).equals("java.util.Arrays"), true);
        }
        Matcher calls = Pattern.compile("\\b([A-Z][A-Za-z]*\\.[a-z][A-Za-z]*)\\(").matcher(code);
        while (calls.find()) {
            check.due(calls.group(1), LIBRARY.contains(calls.group(1)), true);
        }
    }

    private static void classes(String code) {
        int count = 0;
        Matcher matcher = Pattern.compile("([a-z ]*)class [A-Z]").matcher(code);
        while (matcher.find()) {
            String modifiers = matcher.group(1).trim();
            check.due(modifiers, modifiers.equals("public final") || modifiers.equals("private static final"), true);
            count++;
        }
        check.due("at most twelve classes", count <= 12, true);
    }

    private static void lengths(String source) {
        List<String> lines = new ArrayList<>(Arrays.asList(source.split("\n")));
        Pattern head = Pattern.compile("^( {4}| {8})[a-zA-Z][^=;]*\\([^;]*\\{$");
        for (int k = 0; k < lines.size(); k++) {
            Matcher matcher = head.matcher(lines.get(k));
            if (!matcher.matches() || lines.get(k).matches("\\s*(if|for|while|switch|\\}).*")) {
                continue;
            }
            int end = k;
            while (!lines.get(end).equals(matcher.group(1) + "}")) {
                end++;
            }
            check.due(lines.get(k).trim() + " is short", end - k <= 60, true);
        }
    }
}
