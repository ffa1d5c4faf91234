import java.io.IOException;
import java.nio.file.Files;
import java.nio.file.Path;
import java.util.ArrayList;
import java.util.List;
import java.util.TreeSet;
import java.util.regex.Matcher;
import java.util.regex.Pattern;

/** README.md, which stands in the working directory: what it shows is what the program does. */
public final class ReadmeTest {
    private static final String MAKING = "CatalanWeb web = new CatalanWeb();";
    private static final Pattern CALL =
        Pattern.compile("web\\.(\\w+)\\(((?:-?\\d+(?:, -?\\d+)*)?)\\); +// (-?\\d+|nothing|throws \\w+)(?:: .+)?");
    private static final Pattern FAMILY = Pattern.compile("\\| ([0-9]+) \\|[^|]*\\|[^|]*\\| ([-0-9 ]+) \\|");
    private static final int SIZE = 4;
    private static final int RANK = 6;

    public static void main(String[] args) throws IOException {
        List<String> lines = Files.readAllLines(Path.of("README.md"));
        calls(lines);
        families(lines);
        howToTest(lines);
        Checks.end();
    }

    /** Every line of every Java block must be understood, so that none is shown without being tried. */
    private static void calls(List<String> lines) {
        TreeSet<String> shown = new TreeSet<>();
        CatalanWeb web = null;
        boolean inBlock = false;
        for (String line : lines) {
            if (line.startsWith("```")) {
                inBlock = line.equals("```java");
                web = null;
            } else if (inBlock && line.equals(MAKING)) {
                web = new CatalanWeb();
            } else if (inBlock) {
                shown.add(tried(line, web));
            }
        }
        Checks.due("the calls that README.md shows", new ArrayList<>(shown), Call.NAMES);
    }

    private static String tried(String line, CatalanWeb web) {
        Matcher parts = CALL.matcher(line);
        boolean understood = web != null && parts.matches();
        Checks.due("a call with its answer: " + line, understood, true);
        if (!understood) {
            return "?";
        }
        Call call = new Call(parts.group(1), numbers(parts.group(2), ", "));
        Checks.due("README.md: " + call, call.on(web), parts.group(3));
        return call.name();
    }

    private static List<Integer> numbers(String text, String between) {
        List<Integer> numbers = new ArrayList<>();
        for (String number : text.isEmpty() ? new String[0] : text.split(between)) {
            numbers.add(Integer.valueOf(number));
        }
        return numbers;
    }

    private static void families(List<String> lines) {
        List<Integer> found = new ArrayList<>();
        for (String line : lines) {
            Matcher parts = FAMILY.matcher(line);
            if (parts.matches()) {
                int family = Integer.parseInt(parts.group(1));
                found.add(family);
                thing(family, numbers(parts.group(2), " "));
            }
        }
        Checks.due("the families that README.md shows", found, List.of(0, 1, 2, 3, 4, 5));
    }

    private static void thing(int family, List<Integer> numbers) {
        CatalanWeb web = Checks.web(SIZE, RANK);
        Checks.due("README.md: show(" + family + ")", web.show(family), numbers.size());
        Checks.due("README.md: the numbers of family " + family, Checks.noteOf(web, numbers.size()), numbers);
        CatalanWeb other = Checks.web(SIZE, 0);
        Checks.putAll(other, numbers);
        Call take = Call.of("take", family);
        Checks.due("README.md: " + take, take.on(other), "" + RANK);
    }

    private static void howToTest(List<String> lines) {
        Checks.due("README.md says how to run the tests", lines.contains(".ci/run"), true);
        Checks.due(".ci/run can be run", Files.isExecutable(Path.of(".ci/run")), true);
    }
}
