import java.lang.reflect.InvocationTargetException;
import java.lang.reflect.Method;
import java.nio.file.Files;
import java.nio.file.Path;
import java.util.ArrayList;
import java.util.Arrays;
import java.util.HashMap;
import java.util.LinkedHashMap;
import java.util.List;
import java.util.Map;
import java.util.TreeMap;
import java.util.regex.Matcher;
import java.util.regex.Pattern;

/**
 * A boundary case that the document names, with the words that name it: a run of calls on a new object.
 * The calls are kept, so that the run can be made again on other objects: what a call must leave as it was
 * is read from those, as reading it may take more than 512 calls, and may change it.
 */
final class Edge {
    static final int MIN = Integer.MIN_VALUE;
    static final int MAX = Integer.MAX_VALUE;
    static final int NONE = -1;

    private static final int CALLS = 512;
    /** What a document's sentence about a boundary case has in it. */
    private static final Pattern MARKS = Pattern.compile("NONE|-[2-6]|not so many|below (?:0|NONE)|\\bempty\\b|\\bstays\\b"
        + "|nothing|whole within|more than|\\bnone\\b|[Ww]ithout|\\d \\.\\. \\d+|\\d\\d+|\\blatest\\b|\\bleast\\b|\\btoo\\)"
        + "|ahead of any|\\balone\\b|\\bonce\\b|no two|don't|\\bends\\b|\\brising\\b|\\bothers\\b|, too\\b");

    private static final Map<String, Method> METHODS = new HashMap<>();
    private static final Map<String, String> SECTIONS = new LinkedHashMap<>();
    private static final Map<String, boolean[]> QUOTED = new HashMap<>();
    private static int wrong = 0;
    private static int edges = 0;
    /** Whether objects have had another TEXT, as full as can be, ahead of a test's own: nothing of it may come through. */
    static boolean worn = false;

    private static final String FULLEST = fullest();

    /** A law for each ROLE, 12 sees, 12 STRINGS of 6 TERMS, some with joins. */
    private static String fullest() {
        StringBuilder text = new StringBuilder();
        String[] roles = {"place", "thing", "part", "act", "agent", "form"};
        for (int i = 0; i < 6; i++) text.append("law ").append(roles[i]).append(i % 2 == 0 ? " whole;" : " near;");
        for (char c = 'a'; c < 'm'; c++) text.append("see ").append(c).append(" ").append((char) (c + 1)).append(";");
        for (int s = 0; s < 12; s++) {
            text.append("string ").append(s).append(":place a via b back c");
            for (int i = 1; i < 6; i++) text.append(",").append(s == 0 && i == 5 ? "form" : "act").append(" z").append((char) ('a' + s + i));
            text.append(";");
        }
        return text.toString();
    }

    private record Call(String name, int[] arguments) {
        @Override public String toString() {
            String list = Arrays.toString(arguments);
            return name + "(" + list.substring(1, list.length() - 1) + ")";
        }
    }

    private static final class Used {
        final TurnedHeadings x = new TurnedHeadings();
        int calls = 0;

        int answer(Call call) {
            calls++;
            if (calls > CALLS) throw new IllegalStateException("a test of more than 512 calls");
            try {
                Object[] boxed = Arrays.stream(call.arguments).boxed().toArray();
                return (int) METHODS.get(call.name).invoke(x, boxed);
            } catch (InvocationTargetException e) {
                throw new IllegalStateException(call + " throws " + e.getCause(), e);
            } catch (IllegalAccessException e) {
                throw new IllegalStateException(e);
            }
        }
    }

    private final String section;
    private final String quote;
    private final List<Call> run = new ArrayList<>();
    private final Used used = new Used();

    private Edge(String section, String quote) {
        this.section = section;
        this.quote = quote;
    }

    // ---- the document ----

    /** Splits the document at its titles; blanks of any kind count as one. */
    static void readDocument(Path path) throws Exception {
        for (Method method : TurnedHeadings.class.getDeclaredMethods()) METHODS.put(method.getName(), method);
        String title = "";
        for (String line : Files.readString(path).split("\n")) {
            if (line.startsWith("## ")) title = line.substring(3).replaceAll(":.*", "");
            else SECTIONS.merge(title, line, (all, more) -> (all + " " + more).replaceAll("\\s+", " "));
        }
        for (Map.Entry<String, String> each : SECTIONS.entrySet()) QUOTED.put(each.getKey(), new boolean[each.getValue().length()]);
    }

    static Edge use(String quote) {
        return of("What it is", quote);
    }

    static Edge terms(String quote) {
        return of("Terms", quote);
    }

    static Edge promise(int number, String quote) {
        return of("Promise " + number, quote);
    }

    private static Edge of(String section, String quote) {
        edges++;
        Edge edge = new Edge(section, quote);
        int at = SECTIONS.getOrDefault(section, "").indexOf(quote);
        if (at < 0) edge.tell("these words are not in the document");
        else Arrays.fill(QUOTED.get(section), at, at + quote.length(), true);
        return edge;
    }

    /** Whether all that the document says of boundary cases has been quoted by some test. */
    static void needAllQuoted() {
        for (Map.Entry<String, String> each : SECTIONS.entrySet()) {
            boolean told = List.of("What it is", "Terms").contains(each.getKey()) || each.getKey().startsWith("Promise");
            if (!told) continue;
            Matcher mark = MARKS.matcher(each.getValue());
            while (mark.find()) {
                if (QUOTED.get(each.getKey())[mark.start()]) continue;
                wrong++;
                int from = Math.max(0, mark.start() - 40);
                int until = Math.min(each.getValue().length(), mark.end() + 40);
                System.out.println(each.getKey() + ": no test has '" + each.getValue().substring(from, until) + "'");
            }
        }
    }

    static boolean allDue() {
        System.out.println(wrong == 0 ? "EdgeTest: " + edges + " boundary cases are as due" : wrong + " answers are not as due");
        return wrong == 0;
    }

    // ---- calls with the answers that are due ----

    private void tell(String what) {
        wrong++;
        System.out.println(section + ", '" + quote + "': " + what);
    }

    private int make(String name, int... arguments) {
        Call call = new Call(name, arguments);
        run.add(call);
        return used.answer(call);
    }

    private void due(String what, Object got, Object want) {
        if (!got.equals(want)) tell(what + " answered " + got + ", due is " + want);
    }

    Edge is(int want, String name, int... arguments) {
        int got = make(name, arguments);
        due(run.get(run.size() - 1) + ", call " + run.size() + ",", got, want);
        return this;
    }

    /** One call for each first argument from first on, with the answers that are due. */
    Edge each(String name, int first, int... wants) {
        for (int i = 0; i < wants.length; i++) is(wants[i], name, first + i);
        return this;
    }

    /** How many calls the object is still good for. */
    int left() {
        return CALLS - used.calls;
    }

    /** Puts a text behind the TAPE. */
    Edge say(String text) {
        int before = used.x.count(8);
        run.add(new Call("count", new int[] {8}));
        used.calls++;
        String full = text + " ".repeat((20 - text.length() % 20) % 20);
        for (int i = 0; i < full.length(); i += 20) {
            int[] five = new int[5];
            for (int j = 0; j < 20; j++) five[j / 4] = five[j / 4] << 8 | full.charAt(i + j) & 255;
            is(before + i + 20, "feed", five);
        }
        return is(before + text.length(), "end", before + text.length());
    }

    Edge text(String text) {
        wear();
        say(text);
        if (make("text") < 0) tell("a FAULT " + make("fault", 0) + " at " + make("fault", 1) + " in " + text);
        return this;
    }

    private void wear() {
        if (!worn || !run.isEmpty()) return;
        say(FULLEST).is(30, "text");
    }

    Edge fine(int lines, String text) {
        wear();
        return say(text).is(lines, "text").is(0, "fault", 0).is(NONE, "fault", 1).is(0, "count", 8);
    }

    /** The FAULT lies where the text has a ^, which is not of it. */
    Edge faulty(int number, String marked) {
        return refusedTape("text", number, marked);
    }

    Edge adds(int want, String heading) {
        return say(heading).is(want, "adds");
    }

    Edge faultyAdds(int number, String marked) {
        return refusedTape("adds", number, marked);
    }

    private Edge refusedTape(String name, int number, String marked) {
        int place = marked.indexOf('^');
        String text = marked.replace("^", "");
        Map<String, String> before = state(run);
        say(text).is(-4, name).is(number, "fault", 0).is(place, "fault", 1).is(0, "count", 8);
        Map<String, String> after = state(run);
        for (String part : List.of("out", "book", "sees", "undo")) due(part + " behind the FAULT", after.get(part), before.get(part));
        return this;
    }

    Edge find(int want, String word) {
        return say(word).is(want, "find").is(0, "count", 8);
    }

    Edge begins(int want, String letters, int k) {
        return say(letters).is(want, "begins", k).is(0, "count", 8);
    }

    Edge out(String want) {
        due("OUT", asText(answers(run, List.of(), octets(outSize(run, List.of())))), want);
        return is(want.length(), "count", 9);
    }

    Edge prints(int l, String want) {
        return is(want.length(), "print", l).out(want);
    }

    /** All LINES, as printAll tells them. */
    Edge lines(String... wants) {
        is(wants.length, "printAll");
        return out(wants.length == 0 ? "" : String.join("\n", wants) + "\n");
    }

    // ---- what a call leaves as it was ----

    /** A call with its answer, behind which everything is as it was ahead of it. */
    Edge stays(int want, String name, int... arguments) {
        Map<String, String> before = state(run);
        is(want, name, arguments);
        compare(name, before, state(run), before.keySet());
        return this;
    }

    private void compare(String name, Map<String, String> before, Map<String, String> after, Iterable<String> parts) {
        for (String part : parts) due(part + " behind " + name, after.get(part), before.get(part));
    }

    /**
     * Of the argument at a place: the least and the greatest that are taken, what those beyond them answer; so do
     * the least and the greatest int. All stays behind those that are refused. None of these calls is made in the run.
     */
    Edge bounds(int place, int lo, int hi, int below, int above, String name, int... arguments) {
        Map<String, String> before = state(run);
        for (int taken : new int[] {lo, hi}) {
            Call call = with(name, arguments, place, taken);
            int got = after(run, call);
            if (got == below || got == above) tell(call + " is refused with " + got);
        }
        for (int beyond : new int[] {MIN, lo - 1, hi + 1, MAX}) {
            Call call = with(name, arguments, place, beyond);
            due(call.toString(), after(run, call), beyond < lo ? below : above);
            compare(call.toString(), before, state(joined(run, List.of(call))), before.keySet());
        }
        return this;
    }

    private static Call with(String name, int[] arguments, int place, int value) {
        int[] changed = arguments.clone();
        changed[place] = value;
        return new Call(name, changed);
    }

    /** An act: one more can be undone; undone, all is as it was. It is not made in the run. */
    Edge undone(int want, String name, int... arguments) {
        Map<String, String> before = state(run);
        Call call = new Call(name, arguments);
        due(call.toString(), after(run, call), want);
        List<Call> acted = joined(run, List.of(call));
        int could = answers(run, List.of(), List.of(new Call("count", new int[] {7}))).get(0);
        due("count(7) behind " + call, after(acted, new Call("count", new int[] {7})), could + 1);
        List<Call> back = joined(acted, List.of(new Call("undo", new int[0])));
        compare(call + ", undone", before, state(back), List.of("out", "book", "sees", "undo"));
        Map<String, String> after = state(acted);
        boolean changed = !after.get("book").equals(before.get("book")) || !after.get("sees").equals(before.get("sees"));
        if (!changed) tell(call + " changes nothing");
        return this;
    }

    /** Everything is as behind another run (but for the parts named). */
    Edge sameAs(Edge other, String... but) {
        Map<String, String> want = state(other.run);
        for (String part : but) want.remove(part);
        compare("this run", want, state(run), want.keySet());
        return this;
    }

    private static int after(List<Call> run, Call call) {
        return answers(run, List.of(), List.of(call)).get(0);
    }

    private static <T> List<T> joined(List<T> first, List<T> second) {
        List<T> all = new ArrayList<>(first);
        all.addAll(second);
        return all;
    }

    private static List<Integer> answers(List<Call> run, List<Call> more, List<Call> asked) {
        return answers(run, more, asked, 1);
    }

    /** What calls answer behind a run and a few calls more, on as many objects as it takes; a group needs one object. */
    private static List<Integer> answers(List<Call> run, List<Call> more, List<Call> asked, int group) {
        List<Integer> all = new ArrayList<>();
        Used fresh = null;
        for (Call call : asked) {
            if (fresh == null || all.size() % group == 0 && fresh.calls + group > CALLS) {
                fresh = new Used();
                for (Call each : run) fresh.answer(each);
                for (Call each : more) fresh.answer(each);
            }
            all.add(fresh.answer(call));
        }
        return all;
    }

    private static void ask(List<Call> asked, String name, int... arguments) {
        asked.add(new Call(name, arguments));
    }

    private static List<Call> octets(int size) {
        List<Call> asked = new ArrayList<>();
        for (int i = 0; i <= size; i++) ask(asked, "octet", i);
        return asked;
    }

    private static int outSize(List<Call> run, List<Call> more) {
        return answers(run, more, List.of(new Call("count", new int[] {9}))).get(0);
    }

    /** The last one of the answers is NONE: it lies behind OUT. */
    private static String asText(List<Integer> octets) {
        StringBuilder text = new StringBuilder();
        for (int octet : octets.subList(0, octets.size() - 1)) text.append((char) octet);
        return octets.get(octets.size() - 1) == NONE ? text.toString() : text + "..";
    }

    private static Map<String, String> state(List<Call> run) {
        Map<String, String> parts = new TreeMap<>();
        List<Call> asked = new ArrayList<>();
        ask(asked, "fault", 0);
        ask(asked, "fault", 1);
        parts.put("fault", answers(run, List.of(), asked).toString());
        parts.put("out", asText(answers(run, List.of(), octets(outSize(run, List.of())))));
        parts.put("book", book(run, List.of()));
        parts.put("tape", tape(run));
        parts.put("sees", sees(run));
        parts.put("undo", undo(run));
        return parts;
    }

    private static String tape(List<Call> run) {
        List<Call> asked = new ArrayList<>();
        ask(asked, "count", 8);
        ask(asked, "text");
        ask(asked, "fault", 0);
        ask(asked, "fault", 1);
        for (int what = 0; what < 9; what++) ask(asked, "count", what);
        List<Call> found = new ArrayList<>();
        ask(found, "find");
        return answers(run, List.of(), asked, asked.size()).toString() + answers(run, List.of(), found);
    }

    /** The STRINGS with all their TERMS, the WAYS, the WORDS and the LINES. */
    private static String book(List<Call> run, List<Call> more) {
        List<Call> asked = new ArrayList<>();
        for (int what = 0; what < 7; what++) ask(asked, "count", what);
        List<Integer> counts = answers(run, more, asked);
        asked.clear();
        for (int role = 0; role < 6; role++) ask(asked, "way", role);
        for (int s = 0; s < counts.get(0); s++) {
            for (int what = 0; what < 5; what++) ask(asked, "string", s, what);
            for (int i = 0; i < 6; i++) {
                for (int what = 0; what < 5; what++) ask(asked, "term", s, i, what);
            }
        }
        for (int word = 0; word < counts.get(3); word++) {
            for (int i = 0; i < 7; i++) ask(asked, "letter", word, i);
        }
        List<Call> printing = joined(more, List.of(new Call("printAll", new int[0])));
        String lines = asText(answers(run, printing, octets(outSize(run, printing))));
        return counts + " " + answers(run, more, asked) + " " + lines;
    }

    /** Sees show in the words that they stand for, and in what their going changes. */
    private static String sees(List<Call> run) {
        int size = after(run, new Call("count", new int[] {2}));
        StringBuilder all = new StringBuilder();
        for (int k = 0; k < size; k++) all.append(book(run, List.of(new Call("forget", new int[] {k})))).append("\n");
        List<Call> asked = new ArrayList<>();
        for (char letter = 'a'; letter <= 'z'; letter++) {
            ask(asked, "end", 0);
            ask(asked, "feed", letter << 24, 0, 0, 0, 0);
            ask(asked, "end", 1);
            ask(asked, "find");
        }
        return all.append(answers(run, List.of(), asked, 4)).toString();
    }

    private static String undo(List<Call> run) {
        int size = after(run, new Call("count", new int[] {7}));
        StringBuilder all = new StringBuilder();
        List<Call> more = new ArrayList<>();
        for (int k = 0; k < size; k++) {
            ask(more, "undo");
            all.append(book(run, more)).append("\n");
        }
        return all.append(after(joined(run, more), new Call("undo", new int[0]))).toString();
    }
}
