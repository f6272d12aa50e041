import java.nio.file.Files;
import java.nio.file.Path;
import java.util.List;
import java.util.Set;
import java.util.regex.Matcher;
import java.util.regex.Pattern;

/** LANGUAGE.md's rules, as far as the class's text tells them; its numbers stand behind each. */
public final class LanguageTest extends Checks {
    private static final int MOST_LINES_OF_A_METHOD = 60;
    private static final int MOST_CLASSES = 12;
    private static final int MOST_PARAMETERS = 7;

    private static final Set<String> IMPORTS = Set.of("import java.util.ArrayList;", "import java.util.Arrays;",
            "import java.util.Iterator;", "import java.util.List;", "import java.util.NoSuchElementException;");
    private static final Set<String> EXCEPTIONS = Set.of("IllegalStateException", "IllegalArgumentException",
            "IndexOutOfBoundsException", "ArithmeticException", "UnsupportedOperationException",
            "NoSuchElementException", "RuntimeException");
    private static final Set<String> WHAT_OF_ARRAYS = Set.of("copyOf", "copyOfRange", "fill");
    private static final Set<String> WHAT_OF_STRING = Set.of("length", "charAt", "isEmpty", "equals", "indexOf",
            "substring", "toCharArray");

    // What no line may hold, as a pattern, with its rule. Some catches are allowed; this class needs none.
    private static final String[][] NEVER = {
        {"->", "2"}, {"::", "2"}, {"\\bpackage\\b", "1"}, {"\\bprotected\\b", "1"}, {"\\bMath\\.\\w*Exact\\b", "4"},
        {"\\bstatic \\{", "5"}, {"\\bfinally\\b", "6"}, {"\\btry \\(", "6"}, {"\\bsynchronized\\b", "6"},
        {"\\bassert\\b", "6"}, {"\\bgetMessage\\b", "6"}, {"\\bhashCode\\b", "6"}, {"\\bextends \\w*Exception\\b", "6"},
        {"\\bwhile \\(true\\)", "9"}, {"\\bfor \\(;;\\)", "9"}, {"\\bRandom\\b", "13"}, {"\\bThread\\b", "13"},
        {"\\bSystem\\.(?!arraycopy\\b)", "13"}, {"\\bcatch\\b", "7"}, {"[^\\x01-\\x7f]", "4"}};

    private static List<String> lines = List.of();

    public static void main(String[] args) throws Exception {
        lines = Files.readAllLines(Path.of("src/main/java/MastSparks.java"));
        lines.replaceAll(LanguageTest::withoutComment);
        neverHeld();
        imports();
        calls();
        exceptions();
        statics();
        classes();
        methods();
        end("LanguageTest");
    }

    private static String withoutComment(String line) {
        String code = line.strip();
        boolean comment = code.startsWith("//") || code.startsWith("/*") || code.startsWith("*");
        return comment ? "" : line.replaceAll("\"[^\"]*\"", "\"\"").replaceFirst("//.*", "");
    }

    private static void neverHeld() {
        for (String[] never : NEVER) {
            Pattern pattern = Pattern.compile(never[0]);
            for (int i = 0; i < lines.size(); i++) {
                if (pattern.matcher(lines.get(i)).find()) {
                    due("rule " + never[1] + " at line " + (i + 1) + ": " + lines.get(i).strip(), false, true);
                }
            }
        }
    }

    // Rule 4
    private static void imports() {
        for (String line : lines) {
            if (line.startsWith("import ")) {
                due("rule 4: " + line, IMPORTS.contains(line), true);
            }
        }
    }

    // Rule 4
    private static void calls() {
        held("\\bArrays\\.(\\w+)", WHAT_OF_ARRAYS, "rule 4: Arrays.");
        held("\\bword\\.(\\w+)\\(", WHAT_OF_STRING, "rule 4: String.");
    }

    // Rule 6
    private static void exceptions() {
        held("\\bnew (\\w+(?:Exception|Error))\\b", EXCEPTIONS, "rule 6: ");
        for (String line : lines) {
            if (line.contains("throw ")) {
                due("rule 6: " + line.strip(), line.strip().matches("throw new \\w+\\((\"\")?\\);"), true);
            }
        }
    }

    private static void held(String pattern, Set<String> fine, String what) {
        for (String line : lines) {
            Matcher m = Pattern.compile(pattern).matcher(line);
            while (m.find()) {
                due(what + m.group(1), fine.contains(m.group(1)), true);
            }
        }
    }

    // Rule 5
    private static void statics() {
        for (String line : lines) {
            String code = line.strip();
            if (code.matches("(public |private )?static .*=.*;")) {
                boolean constant = code.matches("(public|private) static final (int|long|boolean|char|String) \\w+ = .*;")
                        || code.matches("private static final (int|long|char|byte)\\[\\] \\w+ = \\{[-0-9, ]*\\};");
                due("rule 5: " + code, constant, true);
            }
        }
    }

    // Rules 1, 2 and 11
    private static void classes() {
        int classes = 0;
        for (String line : lines) {
            String code = line.strip();
            if (code.matches(".*\\b(class|record|enum|interface) \\w+.*\\{")) {
                classes++;
                boolean whole = code.equals("public final class MastSparks {");
                due("rules 1 and 2: " + code, whole || code.matches("(private )?static .*"), true);
            }
        }
        due("rule 11: some twelve classes", classes > 0 && classes <= MOST_CLASSES, true);
    }

    // Rule 11: a method begins with a line that has its ) and no ; at the end, and ends with the } below its first sign.
    private static void methods() {
        Pattern head = Pattern.compile("^( {4}| {8})(\\w.*\\)(.*[^;])?)$");
        int methods = 0;
        for (int i = 0; i < lines.size(); i++) {
            Matcher m = head.matcher(lines.get(i));
            if (m.find() && !m.group(2).matches("(if|for|while|switch|else)\\b.*")) {
                int end = i;
                while (end < lines.size() && !lines.get(end).equals(m.group(1) + "}")) {
                    end++;
                }
                methods++;
                String told = m.group(2);
                due("rule 11, lines of " + told, end - i + 1 <= MOST_LINES_OF_A_METHOD, true);
                due("rule 11, parameters of " + told, told.split(",").length <= MOST_PARAMETERS, true);
            }
        }
        due("methods were found", methods > 60, true);
    }
}
