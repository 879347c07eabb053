import java.io.IOException;
import java.nio.file.Files;
import java.nio.file.Path;
import java.util.ArrayList;
import java.util.HashSet;
import java.util.List;
import java.util.Set;
import java.util.regex.Matcher;
import java.util.regex.Pattern;

/** What of ../shared/LANGUAGE.md can be seen in the program's lines. */
public final class RulesTest {
    private static final Pattern METHOD =
            Pattern.compile("^ +((?:public |private |static |final )*)[a-z][\\w\\[\\]]*[\\w\\]] (\\w+)\\((.*)$");

    public static void main(String[] args) throws IOException {
        List<String> lines = Files.readAllLines(Path.of("src/main/java/CarolDoors.java"));
        words(lines);
        methods(lines);
        classes(lines);
        Calls.end();
    }

    private static void wrong(int line, String what) {
        Calls.wrong++;
        System.out.println("line " + (line + 1) + ": " + what);
    }

    private static void words(List<String> lines) {
        String[] none = {"->", "::", "finally", "synchronized", "assert ", "catch", "Exact(", "java.util.function",
            "System.out", "System.nano", "System.current", "Random", "Thread", "toString", "hashCode", "\t",
            "Double.", "Math.", "record ", "protected"};
        for (int i = 0; i < lines.size(); i++) {
            String line = lines.get(i);
            for (String word : none) {
                if (line.contains(word)) {
                    wrong(i, "has " + word);
                }
            }
            if (line.startsWith("import") && !line.equals("import java.util.NoSuchElementException;")) {
                wrong(i, "another import");
            }
            if (line.startsWith("package")) {
                wrong(i, "a package");
            }
            for (int k = 0; k < line.length(); k++) {
                if (line.charAt(k) > 126) {
                    wrong(i, "a sign above 126");
                }
            }
        }
    }

    private static void methods(List<String> lines) {
        Set<String> face = new HashSet<>();
        List<String> others = new ArrayList<>();
        for (int i = 0; i < lines.size(); i++) {
            Matcher method = METHOD.matcher(lines.get(i));
            if (!method.matches() || lines.get(i).endsWith(";") || lines.get(i).contains("return ")) {
                continue;
            }
            (method.group(1).contains("public") ? face : others).add(method.group(2));
            if (method.group(3).split(",").length > 7) {
                wrong(i, "more than seven parameters");
            }
            String end = lines.get(i).replaceAll("\\S.*", "") + "}";
            int last = i;
            while (!lines.get(last).equals(end)) {
                last++;
            }
            if (last - i > 60) {
                wrong(i, method.group(2) + " is longer than 60 lines");
            }
        }
        Calls.due("public methods", face.size(), 46);
        for (String name : others) {
            if (face.contains(name)) {
                wrong(0, "a method of its own bears the face's name " + name);
            }
        }
    }

    private static void classes(List<String> lines) {
        int classes = 0;
        int fields = 0;
        for (int i = 0; i < lines.size(); i++) {
            String line = lines.get(i);
            if (line.matches(".*\\bclass \\w+ \\{")) {
                classes++;
                fields = 0;
                if (classes > 1 && !line.startsWith("    private static final class ")) {
                    wrong(i, "a class that is not private, static and final");
                }
            }
            if (line.matches(" +private (?!static).*;")) {
                fields++;
                if (fields > 20) {
                    wrong(i, "more than twenty fields");
                }
            }
            if (line.matches(".*static (?!final).*[;=].*") && !line.contains("(")) {
                wrong(i, "a static field that is not final");
            }
        }
        if (classes > 12) {
            wrong(0, "more than twelve classes");
        }
    }
}
