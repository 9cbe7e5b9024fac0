import java.io.IOException;
import java.nio.file.Files;
import java.nio.file.Path;
import java.util.List;
import java.util.Set;
import java.util.regex.Matcher;
import java.util.regex.Pattern;

/** A rough look at the source for what LANGUAGE.md leaves out. Run from the project's own folder. */
public final class LanguageTest {
    private static final List<String> WORDS_LEFT_OUT = List.of("throw", "throws", "try", "catch", "finally", "synchronized",
        "assert", "protected", "package", "native", "volatile", "transient", "Object", "Exception", "var");
    private static final Set<String> LIBRARY = Set.of("System.arraycopy", "Arrays.fill", "Arrays.copyOf", "Arrays.copyOfRange",
        "Math.min", "Math.max", "Math.abs", "Math.floorDiv", "Math.floorMod", "Integer.bitCount", "Integer.compare");
    private static final Checks CHECKS = new Checks();

    public static void main(String[] args) throws IOException {
        String source = Files.readString(Path.of("src/main/java/RoomsOfAir.java"));
        String code = source.replaceAll("(?s)/\\*.*?\\*/", " ").replaceAll("//[^\n]*", "").replaceAll("'[^']'", "0");
        for (String word : WORDS_LEFT_OUT) {
            CHECKS.holds("no '" + word + "'", !Pattern.compile("\\b" + word + "\\b").matcher(code).find());
        }
        CHECKS.holds("no lambda, no arrow", !code.contains("->"));
        CHECKS.holds("no method reference", !code.contains("::"));
        CHECKS.holds("no text", !code.contains("\""));
        CHECKS.holds("signs 1 to 127 alone", source.chars().allMatch(c -> c >= 1 && c <= 127));
        library(code);
        nothingIsMadeByCalls(code);
        methods(code);
        CHECKS.finish();
    }

    private static void library(String code) {
        Matcher imports = Pattern.compile("import ([\\w.]+);").matcher(code);
        while (imports.find()) {
            CHECKS.holds("import " + imports.group(1), imports.group(1).equals("java.util.Arrays"));
        }
        Matcher calls = Pattern.compile("\\b(?:System|Arrays|Math|Integer|Long)\\.\\w+").matcher(code);
        while (calls.find()) {
            CHECKS.holds(calls.group() + " is in the library's list", LIBRARY.contains(calls.group()));
        }
    }

    /** All rows stand in fields or constructors: each 'new' belongs to a field or to a list that a constructor fills. */
    private static void nothingIsMadeByCalls(String code) {
        Matcher made = Pattern.compile("(?m)^(.*)\\bnew \\w+").matcher(code);
        while (made.find()) {
            String ahead = made.group(1).trim();
            boolean isField = ahead.matches("(private )?final [\\w\\[\\]]+ \\w+ =");
            boolean isFilled = ahead.equals("sheets[i] =") || ahead.equals("flights[i] =");
            CHECKS.holds("made for good: " + made.group().trim(), isField || isFilled);
        }
    }

    private static void methods(String code) {
        String[] lines = code.split("\n");
        Pattern head = Pattern.compile("^( {4}| {8})(?! |(?:if|for|while|switch|else|return)\\b)[\\w\\[\\] ]*\\b\\w+\\(([^()]*)\\) \\{$");
        for (int i = 0; i < lines.length; i++) {
            Matcher matcher = head.matcher(lines[i]);
            if (!matcher.matches()) {
                continue;
            }
            int end = i;
            while (!lines[end].equals(matcher.group(1) + "}")) {
                end++;
            }
            CHECKS.holds("at most sixty lines: " + lines[i].trim(), end - i <= 60);
            CHECKS.holds("at most seven parameters: " + lines[i].trim(), matcher.group(2).split(",").length <= 7);
        }
    }
}
