import java.nio.charset.StandardCharsets;
import java.nio.file.Files;
import java.nio.file.Path;
import java.util.List;
import java.util.regex.Matcher;
import java.util.regex.Pattern;

/** Those rules of ../shared/LANGUAGE.md that can be seen in the text of the class. */
public final class RulesTest {
    private static final int LONGEST_METHOD = 60;
    private static final int MOST_CLASSES = 12;
    private static final int MOST_FIELDS = 20;
    private static final int MOST_PARAMETERS = 7;

    private static final List<String> NEVER = List.of("->", "::", "\\bimport\\b", "\\bpackage\\b", "\\bfinally\\b",
            "\\btry\\b", "\\bcatch\\b", "\\bsynchronized\\b", "\\bassert\\b", "\\bvar\\b", "\\bprotected\\b",
            "\\bvolatile\\b", "\\bnative\\b", "static\\s*\\{", "\\bSystem\\.(?!arraycopy)", "Exact\\b", "\\bRandom\\b",
            "\\bThread\\b", "\\bequals\\(", "\\bhashCode\\b", "\\btoString\\b", "\"\\s*\\+", "\\+\\s*\"",
            "\\binstanceof\\b", "\\bgetMessage\\b");

    private static final List<String> THROWN = List.of("IllegalStateException", "IllegalArgumentException",
            "IndexOutOfBoundsException");

    private RulesTest() {
    }

    public static void main(String[] args) throws Exception {
        Check check = new Check("the rules");
        String file = Files.readString(Path.of(args[0]), StandardCharsets.ISO_8859_1);
        check.that("signs from 1 to 127", file.chars().allMatch(c -> c >= 1 && c <= 127));
        String code = file.replaceAll("(?s)/\\*.*?\\*/", "").replaceAll("//[^\n]*", "");
        for (String never : NEVER) {
            check.that("never " + never, !Pattern.compile(never).matcher(code).find());
        }
        check.due("top classes", count(code, "(?m)^\\S.*\\bclass \\w+ \\{$"), 1);
        check.that("classes", count(code, "\\bclass \\w+ \\{") <= MOST_CLASSES);
        Matcher thrown = Pattern.compile("throw new (\\w+)\\(\"[^\"]*\"\\);").matcher(code);
        int known = 0;
        while (thrown.find()) {
            check.that("throws " + thrown.group(1), THROWN.contains(thrown.group(1)));
            known++;
        }
        check.due("throws", count(code, "\\bthrow\\b"), known);
        methods(check, code);
        fields(check);
        check.end();
    }

    private static int count(String code, String pattern) {
        return (int) Pattern.compile(pattern).matcher(code).results().count();
    }

    private static void methods(Check check, String code) {
        Pattern head = Pattern.compile("^( +)[\\w\\[\\] ]+\\((.*)\\).*\\{$");
        String[] lines = code.split("\n");
        for (int k = 0; k < lines.length; k++) {
            Matcher m = head.matcher(lines[k]);
            if (!m.matches() || m.group(1).length() > 8 || lines[k].contains(" new ")) {
                continue;
            }
            int end = k;
            while (!lines[end].equals(m.group(1) + "}")) {
                end++;
            }
            check.that("short: " + lines[k].strip(), end - k < LONGEST_METHOD);
            check.that("parameters: " + lines[k].strip(), m.group(2).split(",").length <= MOST_PARAMETERS);
        }
    }

    private static void fields(Check check) {
        Class<?>[] inside = HiddenWords.class.getDeclaredClasses();
        Class<?>[] all = java.util.Arrays.copyOf(inside, inside.length + 1);
        all[inside.length] = HiddenWords.class;
        for (Class<?> c : all) {
            int own = 0;
            for (java.lang.reflect.Field f : c.getDeclaredFields()) {
                boolean isStatic = java.lang.reflect.Modifier.isStatic(f.getModifiers());
                own += isStatic ? 0 : 1;
                check.that("final: " + f, !isStatic || java.lang.reflect.Modifier.isFinal(f.getModifiers()));
            }
            check.that("fields of " + c.getName(), own <= MOST_FIELDS);
        }
    }
}
