import java.nio.file.Files;
import java.nio.file.Path;
import java.util.ArrayList;
import java.util.List;
import java.util.regex.Matcher;
import java.util.regex.Pattern;

/** Rules of LANGUAGE.md that can be read off the source text; it is run from the project's directory. */
public final class LanguageTest {
    private static final String[] FORBIDDEN = {
        "\\b(throw|throws|try|catch|finally|synchronized|assert|import|package|protected|volatile|transient|native|strictfp|var)\\b",
        "->", "::", "\\w+Exact\\b", "\\b(Float|Double|Object|Thread|Random|HashMap|HashSet|Iterator|Arrays|List|ArrayList)\\b",
        "\\bSystem\\.(?!arraycopy\\b)", "\\bMath\\.(?!max\\b|min\\b|abs\\b|floorMod\\b|floorDiv\\b)", "\\b(hashCode|equals|toString|getClass)\\b",
        "\\bstatic\\s*\\{", "\\]\\s*\\[", "\\b(float|double)\\b", "@Override"};
    private static final String[] FACE = {"say", "wipe", "fault", "set", "get", "effect", "causes", "call", "drop", "swap", "told", "stages",
        "run", "thrower", "commit", "image", "restore", "count"};

    private static int wrong = 0;

    public static void main(String[] args) throws Exception {
        String source = Files.readString(Path.of("src/main/java/SwapCalls.java"));
        String code = withoutComments(source);
        for (String rule : FORBIDDEN) forbid(code, rule);
        staticFieldsAreConstants(code);
        methodsBearTheirOwnNames(code);
        methodsAreShort(code);
        objectsAreMadeAtFirst(code);
        for (char sign : source.toCharArray()) if (sign != '\n' && (sign < 32 || sign > 126)) fault("a sign " + (int) sign);
        System.out.println(wrong == 0 ? "language: no rule is broken" : wrong + " rules are broken");
        if (wrong != 0) System.exit(1);
    }

    private static void fault(String what) {
        wrong++;
        System.out.println(what);
    }

    private static String withoutComments(String source) {
        return source.replaceAll("(?s)/\\*.*?\\*/", "").replaceAll("//[^\n]*", "");
    }

    private static void forbid(String code, String rule) {
        Matcher m = Pattern.compile(rule).matcher(code);
        while (m.find()) fault("forbidden: " + m.group());
    }

    private static void staticFieldsAreConstants(String code) {
        for (String line : code.split("\n")) {
            boolean field = line.contains("static") && line.trim().endsWith(";");
            if (field && !line.contains("static final int ")) fault("static state: " + line);
        }
    }

    private static List<String> headers(String code) {
        List<String> headers = new ArrayList<>();
        for (String line : code.split("\n")) {
            boolean constructor = line.contains(" SwapCalls(");
            if (!constructor && line.matches(" {4}( {4})?(public |private )?(static )?[a-zA-Z\\[\\]]+ \\w+\\(.*\\) \\{")) headers.add(line);
        }
        return headers;
    }

    private static void methodsBearTheirOwnNames(String code) {
        for (String header : headers(code)) {
            String name = header.replaceAll("\\(.*", "").replaceAll(".* ", "");
            boolean isPublic = header.contains("public ");
            boolean isOfFace = List.of(FACE).contains(name);
            if (isPublic != isOfFace) fault("the name of " + header.trim());
            if (header.split(",").length > 7) fault("parameters of " + header.trim());
        }
        if (headers(code).size() < FACE.length) fault("methods are not found");
    }

    private static void methodsAreShort(String code) {
        int start = -1;
        String[] lines = code.split("\n");
        for (int i = 0; i < lines.length; i++) {
            if (!headers(lines[i]).isEmpty()) start = i;
            boolean ends = lines[i].equals("    }") || lines[i].equals("        }");
            if (ends && start >= 0 && lines[i].indexOf('}') == lines[start].length() - lines[start].stripLeading().length()) {
                if (i - start > 60) fault("a long method: " + lines[start].trim());
                start = -1;
            }
        }
    }

    /** All calls of a run share one room, so no method makes an object; only fields and the constructor do. */
    private static void objectsAreMadeAtFirst(String code) {
        for (String line : code.split("\n")) {
            boolean field = line.trim().startsWith("private final ");
            boolean constructor = line.trim().matches("(routines|images)\\[\\w\\] = new \\w+\\(\\);");
            if (line.matches(".*\\bnew\\b.*") && !field && !constructor) fault("an object is made by a method: " + line.trim());
        }
    }
}
