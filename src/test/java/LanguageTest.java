import java.io.IOException;
import java.nio.file.Files;
import java.nio.file.Path;
import java.util.ArrayList;
import java.util.List;
import java.util.regex.Matcher;
import java.util.regex.Pattern;

/** The rules of ../shared/LANGUAGE.md that can be seen in the program's text. .ci/run starts it in the checkout. */
public final class LanguageTest {
    private static final String[] REFUSED = {"->", "::", "\\bcatch\\b", "\\bfinally\\b", "\\bthrows?\\b", "\\bsynchronized\\b",
        "\\bassert\\b", "\\bpackage\\b", "\\bprotected\\b", "\\bvolatile\\b", "\\btransient\\b", "\\bnative\\b", "Exact\\b",
        "\\bFloat\\b", "\\bDouble\\b", "\\bSystem\\.(?!arraycopy)", "\\bThread\\b", "\\bRandom\\b", "\\bObject\\b", "\\bvar\\b",
        "\\bstatic\\s*\\{", "\\.(hashCode|toString|getClass)\\(", "\\bMap\\b", "\\bSet\\b", "\\bMath\\.(?!min|max|floorDiv|floorMod|abs)",
        "\\[\\]\\s*\\[\\]\\s*\\[\\]", "@"};

    public static void main(String[] args) throws IOException {
        String text = Files.readString(Path.of("src/main/java/CueBoard.java"));
        for (int i = 0; i < text.length(); i++) {
            Tally.due("sign " + i + " is plain", text.charAt(i) < 127 ? 1 : 0, 1);
        }
        String code = bare(text);
        for (String refused : REFUSED) {
            Matcher matcher = Pattern.compile(refused).matcher(code);
            Tally.due("uses of " + refused, matcher.results().count(), 0);
        }
        imports(code);
        classes(code);
        methods(code);
        staticFields(code);
        Tally.end();
    }

    /** Without comments, and with empty texts. */
    private static String bare(String text) {
        return text.replaceAll("(?s)/\\*.*?\\*/", "").replaceAll("//[^\n]*", "").replaceAll("\"[^\"\n]*\"", "\"\"");
    }

    private static void imports(String code) {
        Matcher matcher = Pattern.compile("(?m)^import (.*);$").matcher(code);
        while (matcher.find()) {
            boolean fine = List.of("java.util.Arrays", "java.util.ArrayList", "java.util.List").contains(matcher.group(1));
            Tally.due("import " + matcher.group(1), fine ? 1 : 0, 1);
        }
    }

    private static void classes(String code) {
        Matcher matcher = Pattern.compile("\\b(class|interface|enum|record) (\\w+)").matcher(code);
        List<Integer> starts = new ArrayList<>();
        while (matcher.find()) {
            starts.add(matcher.start());
        }
        Tally.due("at most twelve classes", starts.size() <= 12 ? 1 : 0, 1);
        starts.add(code.length());
        for (int i = 0; i + 1 < starts.size(); i++) {
            String body = code.substring(starts.get(i), starts.get(i + 1));
            int fields = 0;
            for (String line : body.split("\n")) {
                boolean field = line.matches("( {4}| {8})(private |final )*\\w+(\\[\\])? \\w+( = .*)?;") && !line.contains("return");
                fields += field ? 1 : 0;
            }
            Tally.due("fields of " + body.substring(0, body.indexOf('{')).trim(), fields <= 20 ? 1 : 0, 1);
        }
    }

    private static void methods(String code) {
        String[] lines = code.split("\n");
        Pattern head = Pattern.compile("^( {4}| {8})(?! )(?!.*\\b(class|new)\\b)[\\w\\[\\] ]*\\b(\\w+)\\(([^)]*)\\) \\{$");
        for (int i = 0; i < lines.length; i++) {
            Matcher matcher = head.matcher(lines[i]);
            if (!matcher.matches()) {
                continue;
            }
            int end = i;
            while (!lines[end].equals(matcher.group(1) + "}")) {
                end++;
            }
            Tally.due("lines of " + matcher.group(3), end - i < 60 ? 1 : 0, 1);
            Tally.due("parameters of " + matcher.group(3), matcher.group(4).split(",").length <= 7 ? 1 : 0, 1);
        }
    }

    private static void staticFields(String code) {
        Matcher matcher = Pattern.compile("\\bstatic ([^;({]*?)\\w+ = ").matcher(code);
        while (matcher.find()) {
            boolean fine = matcher.group(1).matches("final (int|long|boolean|char|String|int\\[\\]|long\\[\\]|char\\[\\]|byte\\[\\]) ");
            Tally.due("a constant: " + matcher.group(), fine ? 1 : 0, 1);
        }
    }
}
