import java.nio.file.Files;
import java.nio.file.Path;
import java.util.ArrayList;
import java.util.List;
import java.util.Map;
import java.util.Set;
import java.util.TreeMap;
import java.util.TreeSet;
import java.util.regex.Matcher;
import java.util.regex.Pattern;

/** Rules of LANGUAGE.md that a look at the text of the class can tell. */
public final class LanguageTest {
    private static final Pattern METHOD = Pattern.compile(
            "^ +(public |private |static |final )*[a-z\\[\\]A-Z]+ ([a-zA-Z]+)\\((.*)\\)( throws .*)? \\{$");
    private static final Pattern CALL = Pattern.compile("(?<!Integer[.])\\b([a-z][a-zA-Z]*)\\(");
    private static final int LONGEST_METHOD = 60;
    private static final int DEEPEST_CALLS = 8;

    public static void main(String[] args) throws Exception {
        List<String> lines = new ArrayList<>();
        for (String line : Files.readAllLines(Path.of("src/main/java/RewrittenWords.java"))) {
            String bare = line.strip();
            if (!bare.startsWith("*") && !bare.startsWith("/*") && !bare.startsWith("//")) {
                lines.add(line);
            }
        }
        words(lines);
        names(lines);
        lengths(lines);
        depths(lines);
        Check.end("LanguageTest");
    }

    private static void words(List<String> lines) {
        String[] ruledOut = {"->", "::", "catch", "finally", "synchronized", "assert", "Exact(", "static {",
            "Object", "hashCode", "System.out", "protected", "double", "float", "@"};
        int classes = 0;
        for (String line : lines) {
            for (String word : ruledOut) {
                Check.due(line, false, line.contains(word));
            }
            if (line.startsWith("import")) {
                Check.due(line, true, line.matches("import java\\.util\\.(Arrays|NoSuchElementException);"));
            }
            if (line.matches(".*\\bnew\\b.*")) {
                boolean isThrown = line.matches(" +throw new (IllegalArgument|NoSuchElement)Exception\\(\".*\"\\);");
                boolean isField = line.matches(" {4,8}(private )?(final )?[A-Za-z\\[\\]]+ [a-zA-Z]+ = new .*;");
                boolean isRing = line.equals("                ring[k] = new Desk();");
                Check.due("made outside of a constructor: " + line, true, isThrown || isField || isRing);
            }
            if (line.contains(" static ") && line.contains("=")) {
                Check.due(line, true, line.matches(" +(public |private )?static final (int|long) [A-Z_]+ = .*;"));
            }
            classes += line.matches(".*\\bclass [A-Z].*") ? 1 : 0;
        }
        Check.due("classes: " + classes, true, classes <= 12);
    }

    private static void names(List<String> lines) {
        Set<String> face = new TreeSet<>();
        List<String> others = new ArrayList<>();
        for (String line : lines) {
            Matcher m = METHOD.matcher(line);
            if (m.matches() && !m.group(2).equals("RewrittenWords")) {
                if (line.startsWith("    public ")) {
                    face.add(m.group(2));
                } else {
                    others.add(m.group(2));
                }
                Check.due(line, true, m.group(3).split(",").length <= 7);
            }
        }
        Check.due("methods of the face", 34, face.size());
        Check.due("other methods are seen", true, others.size() > 50);
        for (String name : others) {
            Check.due(name, false, face.contains(name));
        }
    }

    private static void lengths(List<String> lines) {
        for (int from = 0; from < lines.size(); from++) {
            if (METHOD.matcher(lines.get(from)).matches()) {
                int length = endOf(lines, from) - from;
                Check.due(lines.get(from) + " of " + length, true, length < LONGEST_METHOD);
            }
        }
    }

    private static int endOf(List<String> lines, int from) {
        String indent = lines.get(from).replaceAll("\\S.*", "");
        int to = from;
        while (!lines.get(to).equals(indent + "}")) {
            to++;
        }
        return to;
    }

    /** How deep calls go, methods of one name taken as one; only copyFrom of two classes calls its like. */
    private static void depths(List<String> lines) {
        Map<String, Set<String>> calls = new TreeMap<>();
        for (int from = 0; from < lines.size(); from++) {
            Matcher method = METHOD.matcher(lines.get(from));
            if (method.matches()) {
                Set<String> called = calls.computeIfAbsent(method.group(2), name -> new TreeSet<>());
                Matcher call = CALL.matcher(String.join("\n", lines.subList(from + 1, endOf(lines, from))));
                while (call.find()) {
                    called.add(call.group(1));
                }
            }
        }
        Check.due("a call of its like", true, calls.get("copyFrom").remove("copyFrom"));
        for (String name : calls.keySet()) {
            int depth = depth(calls, name, 1);
            Check.due("calls from " + name + " go " + depth + " deep", true, depth <= DEEPEST_CALLS);
        }
    }

    private static int depth(Map<String, Set<String>> calls, String name, int above) {
        int deepest = 1;
        // a call of itself, by whatever way, would go on for ever here
        for (String called : above > 2 * DEEPEST_CALLS ? new TreeSet<String>() : calls.get(name)) {
            if (calls.containsKey(called)) {
                deepest = Math.max(deepest, 1 + depth(calls, called, above + 1));
            }
        }
        return deepest;
    }
}
