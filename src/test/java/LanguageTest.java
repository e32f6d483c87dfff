import java.io.IOException;
import java.nio.file.Files;
import java.nio.file.Path;
import java.util.ArrayList;
import java.util.List;
import java.util.regex.Matcher;
import java.util.regex.Pattern;

/** Words, signs, lengths and objects in the class that ../shared/LANGUAGE.md rules out; it looks at the text alone. */
public final class LanguageTest {
    private static final String[] RULED_OUT = {"->", "::", "\\btry\\b", "\\bcatch\\b", "\\bfinally\\b", "\\bassert\\b",
        "\\bsynchronized\\b", "\\brecord\\b.*\\(.*\\{", "\\bprotected\\b", "\\bpackage\\b", "Exact\\(", "\\bjava\\.io\\b",
        "System\\.(?!arraycopy)", "\\bThread\\b", "\\bRandom\\b", "\\bObject\\b", "\\bLong\\b", "String\\.(format|valueOf)",
        "\\.toString\\(\\)\\s*\\+", "\"\\s*\\+|\\+\\s*\"", "\\bstatic\\s*\\{", "\\bvar\\b", "numberOf"};

    /** The text without comments, and with the written texts emptied. */
    private static String code(String source) {
        return source.replaceAll("(?s)/\\*.*?\\*/", "").replaceAll("//[^\n]*", "").replaceAll("\"[^\"\n]*\"", "\"\"");
    }

    private static void words(String code) {
        for (String pattern : RULED_OUT) {
            Matcher m = Pattern.compile(pattern).matcher(code);
            Check.due("the class has " + pattern, m.find(), false);
        }
        List<String> imports = new ArrayList<>();
        Matcher m = Pattern.compile("import ([\\w.*]+);").matcher(code);
        while (m.find()) {
            imports.add(m.group(1));
        }
        Check.due("imports", imports.toString(), "[java.util.Arrays, java.util.NoSuchElementException]");
        for (Matcher e = Pattern.compile("throw ([^;]*);").matcher(code); e.find(); ) {
            Check.due("throw " + e.group(1), e.group(1).matches(
                    "new (IllegalState|IllegalArgument|IndexOutOfBounds|NoSuchElement)(Exception)\\(\"\"\\)"), true);
        }
    }

    private static void signs(String source) {
        for (int i = 0; i < source.length(); i++) {
            if (source.charAt(i) > 126 || source.charAt(i) < 32 && source.charAt(i) != '\n') {
                Check.tell("the class has the sign " + (int) source.charAt(i) + " at " + i);
            }
        }
    }

    private static void lengths(String code) {
        int classes = 0;
        for (Matcher m = Pattern.compile("\\b(class|enum|interface)\\s+\\w+").matcher(code); m.find(); ) {
            classes++;
        }
        Check.due("more than twelve classes", classes > 12, false);
        String[] lines = code.split("\n");
        int start = -1;
        String indent = "";
        for (int i = 0; i < lines.length; i++) {
            Matcher m = Pattern.compile("^(    |        )(?! )[\\w\\[\\] ]+\\([^;]*$").matcher(lines[i]);
            if (start < 0 && m.find()) {
                start = i;
                indent = m.group(1);
                Matcher p = Pattern.compile("\\(([^)]*)\\)").matcher(lines[i]);
                int parameters = p.find() ? p.group(1).split(",").length : 0;
                Check.due("more than seven parameters: " + lines[i], parameters > 7, false);
            } else if (start >= 0 && lines[i].equals(indent + "}")) {
                Check.due("more than sixty lines: " + lines[start], i - start + 1 > 60, false);
                start = -1;
            }
        }
    }

    /** Rows, tables and texts are made in constructors and used again: else only exceptions, and one short array. */
    private static void made(String code) {
        String[] lines = code.split("\n");
        String header = "";
        for (String line : lines) {
            if (line.matches("(    |        )(?! )[\\w\\[\\] ]+\\([^;]*")) {
                header = line.trim();
            }
            boolean field = line.matches(" +(private )?(static )?final [^=(]*= new .*");
            boolean constructor = header.matches("(public )?[A-Z]\\w*\\(.*");
            if (line.contains("new ") && !line.contains("throw new ") && !field && !constructor) {
                Check.due("made in " + header, line.trim(), "int[] offered = new int[MAX_WORKERS];");
            }
        }
    }

    public static void main(String[] args) throws IOException {
        String source = Files.readString(Path.of("src/main/java/ReviewTable.java"));
        signs(source);
        words(code(source));
        lengths(code(source));
        made(code(source));
        Check.finish("LanguageTest");
    }
}
