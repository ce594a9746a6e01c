import java.io.IOException;
import java.nio.file.Files;
import java.nio.file.Path;
import java.util.List;
import java.util.regex.Matcher;
import java.util.regex.Pattern;

/** What of shared/LANGUAGE.md can be seen in the source at a glance. */
public final class LanguageTests {
    private static final Check check = new Check("language");
    private static final List<String> NEVER = List.of("->", "::", "\\btry\\b", "\\bcatch\\b", "\\bfinally\\b", "\\bassert\\b",
        "\\bsynchronized\\b", "\\bstatic\\s*\\{", "\\bprotected\\b", "\\bfloat\\b", "\\bdouble\\b", "\\bvar\\b", "\\bnull\\s*\\)\\s*\\.",
        "\\bException\\b", "Exact\\(", "\\bRandom\\b", "\\bThread\\b", "System\\.(?!arraycopy)", "\\bhashCode\\b", "\\btoString\\b");
    private static final int LONGEST_METHOD = 60;
    private static final int MOST_CLASSES = 12;
    private static final int MOST_PARAMETERS = 7;

    public static void main(String[] args) throws IOException {
        String source = Files.readString(Path.of("src/main/java/RunWorth.java"));
        for (int i = 0; i < source.length(); i++) {
            if (source.charAt(i) > 126) {
                check.due("a sign of the source", source.charAt(i), 126);
            }
        }
        String bare = source.replaceAll("(?s)/\\*.*?\\*/", "").replaceAll("//[^\n]*", "").replaceAll("\"[^\"\n]*\"", "\"\"");
        for (String never : NEVER) {
            check.due(never + " is found", Pattern.compile(never).matcher(bare).find() ? 1 : 0, 0);
        }
        check.due("imports", count("(?m)^import ", bare), 1);
        check.due("throws", count("\\bthrow new ", bare), count("\\bthrow new NoSuchElementException\\(", bare));
        check.due("few classes: " + count("\\bclass ", bare), count("\\bclass ", bare) <= MOST_CLASSES ? 1 : 0, 1);
        check.due("library", count("\\b(?:Math|Integer|Long|Arrays|System)\\.", bare),
            count("\\b(?:Math\\.(?:min|max)|Integer\\.bitCount|System\\.arraycopy)\\(", bare));
        methods(bare.split("\n"));
        check.end();
    }

    private static int count(String pattern, String text) {
        Matcher m = Pattern.compile(pattern).matcher(text);
        int n = 0;
        while (m.find()) {
            n++;
        }
        return n;
    }

    private static void methods(String[] lines) {
        Pattern head = Pattern.compile("^( +)(?!return|else|new)[\\w<>\\[\\] ]+\\(([^;=]*)\\)[\\w ]*\\{$");
        for (int i = 0; i < lines.length; i++) {
            Matcher m = head.matcher(lines[i]);
            if (!m.matches() || lines[i].matches("^ +(if|for|while|switch|do)\\b.*")) {
                continue;
            }
            int parameters = m.group(2).isEmpty() ? 0 : m.group(2).split(",").length;
            check.due("few parameters: " + lines[i], parameters <= MOST_PARAMETERS ? 1 : 0, 1);
            int end = i;
            while (end < lines.length && !lines[end].equals(m.group(1) + "}")) {
                end++;
            }
            check.due("short: " + lines[i] + " " + (end - i), end - i <= LONGEST_METHOD ? 1 : 0, 1);
        }
    }
}
