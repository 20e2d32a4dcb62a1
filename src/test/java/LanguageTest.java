import java.nio.file.Files;
import java.nio.file.Path;
import java.util.ArrayList;
import java.util.List;
import java.util.Set;
import java.util.TreeSet;
import java.util.regex.Matcher;
import java.util.regex.Pattern;

/** Rules of LANGUAGE.md that a look at the text of the class can tell. */
public final class LanguageTest {
    private static final Pattern METHOD = Pattern.compile(
            "^ +(public |private |static |final )*[a-z\\[\\]A-Z]+ ([a-zA-Z]+)\\((.*)\\)( throws .*)? \\{$");
    private static final int LONGEST_METHOD = 60;

    public static void main(String[] args) throws Exception {
        List<String> lines = new ArrayList<>();
        for (String line : Files.readAllLines(Path.of("src/main/java/RewrittenWords.java"))) {
            String bare = line.strip();
            if (!bare.startsWith("*") && !bare.startsWith("/*") && !bare.startsWith("//")) {
                lines.add(line);
            }
        }
        words(lines);
        names(lines);
        lengths(lines);
        Check.end("LanguageTest");
    }

    private static void words(List<String> lines) {
        String[] ruledOut = {"->", "::", "catch", "finally", "synchronized", "assert", "Exact(", "static {",
            "Object", "hashCode", "System.out", "protected", "double", "float", "@"};
        int classes = 0;
        for (String line : lines) {
            for (String word : ruledOut) {
                Check.due(line, false, line.contains(word));
            }
            if (line.startsWith("import")) {
                Check.due(line, true, line.matches("import java\\.util\\.(Arrays|NoSuchElementException);"));
            }
            if (line.matches(".*\\bnew\\b.*")) {
                boolean isThrown = line.matches(" +throw new (IllegalArgument|NoSuchElement)Exception\\(\".*\"\\);");
                boolean isField = line.matches(" {4,8}(private )?(final )?[A-Za-z\\[\\]]+ [a-zA-Z]+ = new .*;");
                boolean isRing = line.equals("                ring[k] = new Desk();");
                Check.due("made outside of a constructor: " + line, true, isThrown || isField || isRing);
            }
            if (line.contains(" static ") && line.contains("=")) {
                Check.due(line, true, line.matches(" +(public |private )?static final (int|long) [A-Z_]+ = .*;"));
            }
            classes += line.matches(".*\\bclass [A-Z].*") ? 1 : 0;
        }
        Check.due("classes: " + classes, true, classes <= 12);
    }

    private static void names(List<String> lines) {
        Set<String> face = new TreeSet<>();
        List<String> others = new ArrayList<>();
        for (String line : lines) {
            Matcher m = METHOD.matcher(line);
            if (m.matches() && !m.group(2).equals("RewrittenWords")) {
                if (line.startsWith("    public ")) {
                    face.add(m.group(2));
                } else {
                    others.add(m.group(2));
                }
                Check.due(line, true, m.group(3).split(",").length <= 7);
            }
        }
        Check.due("methods of the face", 34, face.size());
        Check.due("other methods are seen", true, others.size() > 50);
        for (String name : others) {
            Check.due(name, false, face.contains(name));
        }
    }

    private static void lengths(List<String> lines) {
        for (int from = 0; from < lines.size(); from++) {
            if (METHOD.matcher(lines.get(from)).matches()) {
                String indent = lines.get(from).replaceAll("\\S.*", "");
                int to = from;
                while (!lines.get(to).equals(indent + "}")) {
                    to++;
                }
                Check.due(lines.get(from) + " of " + (to - from), true, to - from < LONGEST_METHOD);
            }
        }
    }
}
