import java.io.IOException;
import java.nio.file.Files;
import java.nio.file.Path;
import java.util.ArrayList;
import java.util.List;
import java.util.regex.Matcher;
import java.util.regex.Pattern;

/** What the document and LANGUAGE.md say of the source: the headings ahead of the calls, and what must not stand in it. */
public final class SourceTest {
    private static final Path SOURCE = Path.of("src", "main", "java", "PenNursery.java");
    private static final Pattern HEADING = Pattern.compile("    // (---- .*)");
    private static final Pattern CALL = Pattern.compile("    public \\w+ (\\w+)\\(.*");
    private static final String[] CALLS = {
        "---- planting and picking: plant pick addInk",
        "---- changing pens: sharpen blunt uproot move",
        "---- changing nests: merge reorder recall",
        "---- properties of pens: pens exists feather date nestOf indexOf parentOf depth rankOf",
        "---- properties of nests: size penAt penByRank penBySorting countBefore countBeforeByScan looksBefore levels",
        "---- feathers, ink and statistics: pensWith ink commonFeather picked exchanges meanDate pickedShare isConsistent",
        "---- output: writeNest writeInk charAt",
        "---- programs: type run errorPosition failedCommand",
        "---- undo and snapshots: undo save restore",
    };
    private static final String[] NOT_IN_IT = {"->", "::", "try {", "catch", "finally", "synchronized", "assert ",
        "package ", "instanceof", "java.lang.reflect", "System.nanoTime", "System.currentTimeMillis", "Math.random",
        "Thread", ".equals(", "hashCode", "toString", "Exact(", "var "};

    private SourceTest() {
    }

    public static void main(String[] args) throws IOException {
        List<String> lines = Files.readAllLines(SOURCE);
        headings(lines);
        imports(lines);
        nothingElse(lines);
        shortMethods(lines);
        Check.end();
    }

    private static void headings(List<String> lines) {
        List<String> found = new ArrayList<>();
        for (String line : lines) {
            Matcher heading = HEADING.matcher(line);
            Matcher call = CALL.matcher(line);
            if (heading.matches()) {
                found.add(heading.group(1) + ":");
            } else if (call.matches() && !found.isEmpty()) {
                found.add(found.remove(found.size() - 1) + " " + call.group(1));
            }
        }
        for (int i = 0; i < CALLS.length; i++) {
            Check.due("heading " + i, i < found.size() ? found.get(i) : "", CALLS[i]);
        }
    }

    private static void imports(List<String> lines) {
        List<String> imports = lines.stream().filter(line -> line.startsWith("import")).toList();
        Check.due("imports", imports, List.of("import java.util.NoSuchElementException;"));
    }

    private static void nothingElse(List<String> lines) {
        for (int i = 0; i < lines.size(); i++) {
            String line = lines.get(i);
            for (String word : NOT_IN_IT) {
                Check.due("line " + (i + 1) + " has " + word, line.contains(word), false);
            }
            Check.due("line " + (i + 1) + " has other signs", line.chars().allMatch(c -> c >= 32 && c < 127), true);
        }
    }

    /** A method ends where its own indentation comes again. */
    private static void shortMethods(List<String> lines) {
        for (int i = 0; i < lines.size(); i++) {
            String line = lines.get(i);
            if (line.matches("( {4}| {8})[^ ].*[(].*[)] [{]")) {
                String end = line.substring(0, line.length() - line.stripLeading().length()) + "}";
                int length = lines.subList(i, lines.size()).indexOf(end);
                Check.due("the method of line " + (i + 1) + " is short", length > 0 && length <= 60, true);
            }
        }
    }
}
