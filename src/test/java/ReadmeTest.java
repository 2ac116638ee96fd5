import java.lang.reflect.Method;
import java.lang.reflect.Modifier;
import java.nio.file.Files;
import java.nio.file.Path;
import java.util.ArrayList;
import java.util.Arrays;
import java.util.List;
import java.util.Set;
import java.util.TreeSet;
import java.util.regex.Matcher;
import java.util.regex.Pattern;
import java.util.stream.Stream;

/**
 * What README.md shows as use of the class: every row of its Java blocks is read and run, and has to tell the answer;
 * a row that can't be read fails. Argument: another page than README.md.
 */
public final class ReadmeTest {
    private static final Pattern BLOCK = Pattern.compile("(?ms)^```java\n(.*?)^```$");
    private static final Pattern MAKES = Pattern.compile("TurnedHeadings x = new TurnedHeadings\\(\\);");
    private static final Pattern CALLS = Pattern.compile("x\\.(\\w+)\\(([^)]*)\\); *// (NONE|-?\\d+)(: .*)?");
    private static final Pattern SAYS = Pattern.compile("say\\(x, \"([^\"]*)\"\\); *// (NONE|-?\\d+)(: .*)?");
    private static final Pattern BRINGS = Pattern.compile("out\\(x\\); *// \"([^\"]*)\"");
    private static final Pattern OUT_IS = Pattern.compile("OUT is \"([^\"]*)\"");

    private static int wrong = 0;
    private static int rows = 0;
    private TurnedHeadings x;
    private int calls = 0;

    private static void need(boolean holds, String what) {
        if (holds) return;
        wrong++;
        System.out.println("README: " + what);
    }

    // The page shows these two, word for word.

    /** Puts a text behind the tape; answers how many bytes the tape has, NONE if the text finds no room. */
    static int say(TurnedHeadings x, String text) {
        int size = x.count(8) + text.length();
        for (int i = 0; i < text.length(); i += 20) {
            int[] five = new int[5];
            for (int j = 0; j < 20; j++) {
                int octet = i + j < text.length() ? text.charAt(i + j) : ' ';
                five[j / 4] = five[j / 4] << 8 | octet;
            }
            x.feed(five[0], five[1], five[2], five[3], five[4]);
        }
        return x.end(size);
    }

    /** What was printed last; it takes a call for each byte, and a new object is good for 512. */
    static String out(TurnedHeadings x) {
        int size = x.count(9);
        StringBuilder text = new StringBuilder();
        for (int i = 0; i < size; i++) text.append((char) x.octet(i));
        return text.toString();
    }

    private static int number(String told) {
        return told.endsWith("NONE") ? TurnedHeadings.NONE : Integer.decode(told);
    }

    private void row(String row) throws Exception {
        if (row.isEmpty() || row.startsWith("//")) return;
        rows++;
        if (MAKES.matcher(row).matches()) {
            x = new TurnedHeadings();
            calls = 0;
            return;
        }
        need(x != null, "no object is made ahead of '" + row + "'");
        if (x == null) return;
        Matcher says = SAYS.matcher(row);
        Matcher brings = BRINGS.matcher(row);
        Matcher called = CALLS.matcher(row);
        if (says.matches()) said(row, says);
        else if (brings.matches()) brought(row, brings.group(1));
        else if (called.matches()) call(row, called);
        else need(false, "this row can't be read, or tells no answer: '" + row + "'");
        need(calls <= 512, "more than 512 calls up to '" + row + "'");
    }

    private void said(String row, Matcher says) {
        String text = says.group(1);
        calls += 2 + (text.length() + 19) / 20;
        due(row, say(x, text), number(says.group(2)));
    }

    private void brought(String row, String told) {
        String got = out(x);
        calls += 1 + got.length();
        due(row, got, told.replace("\\n", "\n"));
    }

    private static void due(String row, Object got, Object told) {
        need(got.equals(told), "'" + row + "' answered " + got);
    }

    private void call(String row, Matcher shown) throws Exception {
        calls++;
        String list = shown.group(2);
        int[] arguments = list.isEmpty() ? new int[0] : Arrays.stream(list.split(", *")).mapToInt(ReadmeTest::number).toArray();
        Class<?>[] types = new Class<?>[arguments.length];
        Arrays.fill(types, int.class);
        Object[] boxed = Arrays.stream(arguments).boxed().toArray();
        due(row, TurnedHeadings.class.getMethod(shown.group(1), types).invoke(x, boxed), number(shown.group(3)));
        Matcher told = OUT_IS.matcher(row);
        if (told.find()) brought(row, told.group(1));
    }

    private static String oneBlank(String text) {
        return text.replaceAll("\\s+", " ").trim();
    }

    private static void blocks(String page, String ownSource) throws Exception {
        Matcher block = BLOCK.matcher(page);
        int shown = 0;
        int examples = 0;
        while (block.find()) {
            String code = block.group(1);
            if (code.contains("static ")) {
                shown++;
                need(ownSource.contains(oneBlank(code)), "this test has not these functions word for word:\n" + code);
                continue;
            }
            examples++;
            ReadmeTest example = new ReadmeTest();
            for (String row : code.split("\n")) example.row(row.trim());
        }
        need(shown == 1, "say and out are shown once");
        need(examples > 0 && rows > examples, "there are examples");
    }

    /** The table of all calls has each of the class's, once, and no others. */
    private static void table(String page) {
        List<String> told = new ArrayList<>();
        for (String row : page.substring(Math.max(page.indexOf("### All calls"), 0)).split("\n")) {
            if (row.startsWith("## Tests")) break;
            Matcher names = Pattern.compile("`(\\w+)`").matcher(row);
            while (row.startsWith("|") && names.find()) told.add(names.group(1));
        }
        Set<String> due = new TreeSet<>();
        for (Method method : TurnedHeadings.class.getDeclaredMethods()) {
            if (Modifier.isPublic(method.getModifiers())) due.add(method.getName());
        }
        need(new TreeSet<>(told).equals(due) && told.size() == due.size(), "all calls are " + due + ", told are " + told);
    }

    private static void tests(String page) throws Exception {
        String told = page.substring(Math.max(page.indexOf("## Tests"), 0));
        need(told.contains(".ci/run") && told.contains("../shared/tests"), "how to run the tests");
        try (Stream<Path> files = Files.list(Path.of("src/test/java"))) {
            for (Path file : files.filter(f -> f.toString().endsWith("Test.java")).toList()) {
                String name = file.getFileName().toString().replace(".java", "");
                need(told.contains("- `" + name + "`"), name + " is not told");
            }
        }
        Matcher names = Pattern.compile("`(\\w+Test)`").matcher(told);
        while (names.find()) need(Files.exists(Path.of("src/test/java/" + names.group(1) + ".java")), "there is no " + names.group(1));
    }

    public static void main(String[] args) throws Exception {
        String page = Files.readString(Path.of(args.length > 0 ? args[0] : "README.md"));
        blocks(page, oneBlank(Files.readString(Path.of("src/test/java/ReadmeTest.java"))));
        table(page);
        tests(page);
        System.out.println(wrong == 0 ? "ReadmeTest: " + rows + " rows are as told" : wrong + " faults in README.md");
        if (wrong != 0) System.exit(1);
    }
}
