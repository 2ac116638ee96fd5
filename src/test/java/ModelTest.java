import java.lang.reflect.Method;
import java.lang.reflect.Modifier;
import java.util.ArrayList;
import java.util.Arrays;
import java.util.Comparator;
import java.util.List;
import java.util.Map;
import java.util.Random;

/** Long runs of drawn calls, each answered by the class and by the model. Argument: how many runs. */
public final class ModelTest {
    private static final int CALLS = 512;
    private static final String[][] VOCABULARIES = {
        {"a", "b"},
        {"a", "b", "c", "ab", "abc"},
        {"cars", "doors", "texas", "repair", "robots", "autos", "in", "of", "by"},
        {"aaaaaaa", "aaaaaab", "aaaaaa", "zzzzzzz", "abcdefg", "gfedcba", "mmmmmmm", "nnnnnnn", "ooooooo", "qqqqqqq"},
        {"a", "b", "c", "d", "e", "f", "g", "h", "i", "j", "k", "l", "m", "n", "o", "p", "q", "r", "s", "t", "u",
            "v", "w", "x", "y", "z", "aa", "ab", "ac", "ad", "ae", "af", "ag", "ah", "ai", "aj", "ak", "al", "am",
            "an", "ao", "ap", "aq", "ar", "at", "au", "av", "aw", "ax", "ay", "az", "ba", "bb", "bc", "bd", "be",
            "bf", "bg", "bh", "bi", "bj", "bk", "bl", "bm", "bn", "bo", "bp", "bq", "br", "bs", "bt"},
    };
    private static final String[] PIECES = {
        "law", "see", "string", "place", "thing", "part", "act", "agent", "form", "plain", "whole", "near", "not",
        "via", "back", ";", ":", ",", "0", "999", "1000", "007", "99999999999999999999", "abcdefgh", "A", "!", "\t",
        "\u00e9", "\u0080", "\u0000", " ", "\n", "x", "strings", "5a", "a5",
    };

    private final Random random;
    private final TurnedHeadings made = new TurnedHeadings();
    private final Model model = new Model();
    private final List<String> told = new ArrayList<>();
    private final String[] vocabulary;
    private final Method[] methods;
    private int calls = 0;

    private ModelTest(long seed) {
        random = new Random(seed);
        vocabulary = VOCABULARIES[random.nextInt(VOCABULARIES.length)];
        methods = Arrays.stream(TurnedHeadings.class.getDeclaredMethods())
            .filter(m -> Modifier.isPublic(m.getModifiers()))
            .sorted(Comparator.comparing(Method::getName)).toArray(Method[]::new);
    }

    private boolean call(String name, int... arguments) throws Exception {
        if (calls >= CALLS) return true;
        calls++;
        Class<?>[] types = new Class<?>[arguments.length];
        Arrays.fill(types, int.class);
        Object[] boxed = Arrays.stream(arguments).boxed().toArray();
        int want = (int) Model.class.getMethod(name, types).invoke(model, boxed);
        int got = (int) TurnedHeadings.class.getMethod(name, types).invoke(made, boxed);
        told.add(name + Arrays.toString(arguments) + " -> " + got);
        if (got == want) return true;
        System.out.println("call " + calls + " " + name + Arrays.toString(arguments) + " answered " + got + ", due is " + want);
        return false;
    }

    private boolean say(String text) throws Exception {
        String tail = " ".repeat((20 - text.length() % 20) % 20);
        String full = text + tail;
        int before = model.tape.size();
        for (int i = 0; i < full.length(); i += 20) {
            int[] five = new int[5];
            for (int j = 0; j < 20; j++) five[j / 4] = five[j / 4] << 8 | full.charAt(i + j);
            if (!call("feed", five)) return false;
        }
        return call("end", Math.min(before + text.length(), model.tape.size()));
    }

    private int below(int bound) {
        return random.nextInt(bound);
    }

    private boolean often(int percent) {
        return below(100) < percent;
    }

    private String name() {
        return vocabulary[below(vocabulary.length)];
    }

    private String gap() {
        return often(90) ? " " : often(50) ? "\n" : "  ";
    }

    private String heading() {
        StringBuilder text = new StringBuilder();
        text.append(often(85) ? below(1000) : below(12)).append(often(50) ? " : " : ":");
        int count = often(40) ? 6 : 1 + below(6);
        if (often(2)) count = 7;
        List<Integer> roles = new ArrayList<>();
        int some = 1 + below(6);
        for (int i = 0; i < count; i++) roles.add(below(some));
        if (!often(2)) roles.sort(null);
        for (int i = 0; i < count; i++) {
            if (i > 0) text.append(often(50) ? ", " : ",");
            if (often(15)) text.append("not").append(gap());
            text.append(Model.ROLES.get(roles.get(i))).append(gap()).append(name());
            if (often(15)) text.append(gap()).append("via").append(gap()).append(name());
            if (often(15)) text.append(gap()).append("back").append(gap()).append(name());
        }
        return text.append(";").toString();
    }

    private String wholeText() {
        StringBuilder text = new StringBuilder();
        int laws = below(4);
        for (int i = 0; i < laws; i++) {
            text.append("law ").append(Model.ROLES.get(often(97) ? i : below(6))).append(" ");
            text.append(Model.WAYS.get(below(3))).append(";");
        }
        int sees = often(60) ? 0 : often(60) ? below(4) : 10 + below(4);
        for (int i = 0; i < sees; i++) {
            String from = often(sees > 4 ? 3 : 60) ? name() : "s" + (char) ('a' + i);
            String to = often(60) ? name() : "s" + (char) ('a' + i + 1);
            text.append("see ").append(from).append(gap()).append(to).append(";");
        }
        int strings = often(30) ? 12 : often(97) ? below(12) : 13;
        for (int i = 0; i < strings; i++) text.append("string ").append(heading());
        return often(12) ? spoilt(text.toString()) : text.toString();
    }

    private String spoilt(String text) {
        int at = below(text.length() + 1);
        int until = Math.min(text.length(), at + below(4));
        String piece = often(70) ? PIECES[below(PIECES.length)] : "";
        return text.substring(0, at) + (often(50) ? " " + piece + " " : piece) + text.substring(until);
    }

    private int wildArgument() {
        switch (below(6)) {
            case 0: return -1;
            case 1: return -2 + below(3);
            case 2: return below(80);
            case 3: return often(50) ? Integer.MIN_VALUE : Integer.MAX_VALUE;
            case 4: return random.nextInt();
            default: return below(1002);
        }
    }

    /** Mostly one that there is, or one beside the last; s is the STRING that was drawn ahead of it. */
    private int argument(char kind, int s) {
        if (often(6)) return wildArgument();
        switch (kind) {
            case 's': return below(model.now.strings.size() + (often(10) ? 1 : 0) + 1) - (often(30) ? 0 : 1);
            case 'i': return model.noString(s) ? below(6) : below(model.terms(s).size() + (often(10) ? 1 : 0));
            case 't': return model.noString(s) ? below(64) : below((1 << model.terms(s).size()) + (often(10) ? 1 : 0));
            case 'w': return below(Math.max(1, model.wordList().size() + (often(10) ? 1 : 0)));
            case 'e': return below(Math.max(1, model.entries().size() + (often(10) ? 1 : 0)));
            case 'l': return below(Math.max(1, model.lines().size() + (often(10) ? 1 : 0)));
            case 'h': return below(Math.max(1, model.heads().size() + (often(10) ? 1 : 0)));
            case 'r': return often(5) ? -1 + below(8) : below(6);
            case 'R': return below(7) - 1;
            case 'y': return often(5) ? -1 + below(5) : below(3);
            case 'a': return often(20) && !model.noString(0) ? model.now.strings.get(0).address()
                : often(80) ? below(1000) : often(50) ? 999 + below(2) : below(2) - 1;
            case 'b': return often(5) ? -1 + below(4) : below(2);
            case 'q': return often(5) ? -1 + below(12) : below(6);
            case 'c': return below(12) - 1;
            case 'o': return below(model.out.length() + 2) - 1;
            case 'k': return below(often(50) ? 4 : 14) - 1;
            default: return wildArgument();
        }
    }

    private static final Map<String, String> KINDS = Map.ofEntries(
        Map.entry("fault", "b"), Map.entry("count", "c"), Map.entry("string", "sq"), Map.entry("term", "siq"),
        Map.entry("letter", "wk"), Map.entry("way", "r"), Map.entry("at", "a"), Map.entry("entry", "eq"),
        Map.entry("row", "ebk"), Map.entry("line", "lq"), Map.entry("address", "lk"), Map.entry("head", "hq"),
        Map.entry("print", "l"), Map.entry("octet", "o"), Map.entry("rebuilt", "e"), Map.entry("begins", "k"),
        Map.entry("having", "wR"), Map.entry("sharing", "st"), Map.entry("alike", "ss"), Map.entry("common", "ssb"),
        Map.entry("nearest", "s"), Map.entry("beside", "wbk"), Map.entry("often", "w"), Map.entry("most", "w"),
        Map.entry("apart", "s"), Map.entry("would", "ryy"), Map.entry("drops", "s"), Map.entry("law", "ry"),
        Map.entry("lead", "sib"), Map.entry("swaps", "sii"), Map.entry("see", "ww"), Map.entry("forget", "k"),
        Map.entry("moves", "sa"), Map.entry("gather", "rk"), Map.entry("lost", "e"), Map.entry("chain", "ww"),
        Map.entry("shown", "wy"), Map.entry("twins", "s"), Map.entry("rarest", "s"), Map.entry("crossed", "hh"),
        Map.entry("shared", "r"), Map.entry("end", "o"), Map.entry("feed", "xxxxx"));

    private boolean drawnCall() throws Exception {
        int draw = below(100);
        if (draw < 2) return say(wholeText()) && call("text") && call("fault", 0) && call("fault", 1);
        if (draw < 8) {
            String text = heading();
            return say(often(85) ? text : spoilt(text)) && call("adds") && call("fault", 0) && call("fault", 1);
        }
        if (draw < 11) return say(often(80) ? name() : PIECES[below(PIECES.length)]) && call("find");
        if (draw < 14) return say(name().substring(0, 1)) && call("begins", argument('k', 0));
        if (draw < 15) return call("feed", random.nextInt(), random.nextInt(), 0, 0x20202020, random.nextInt());
        if (draw < 18) return call("undo");
        Method method = methods[below(methods.length)];
        String name = method.getName();
        if (name.equals("text") && often(80) || name.equals("feed") && often(90)) return true;
        int[] arguments = new int[method.getParameterCount()];
        for (int i = 0; i < arguments.length; i++) {
            arguments[i] = argument(KINDS.get(name).charAt(i), arguments[0]);
        }
        return call(name, arguments);
    }

    private boolean checkAll() throws Exception {
        for (int what = 0; what < 10; what++) {
            if (!call("count", what)) return false;
        }
        if (!call("printAll")) return false;
        for (int i = 0; i < 12; i++) {
            if (!call("octet", below(model.out.length() + 1))) return false;
        }
        return true;
    }

    private boolean run() throws Exception {
        if (!say(often(80) ? wholeText() : "") || !call("text")) return false;
        while (calls < CALLS) {
            if (!drawnCall()) return false;
            if (often(2) && !checkAll()) return false;
        }
        return true;
    }

    public static void main(String[] args) throws Exception {
        int runs = args.length > 0 ? Integer.parseInt(args[0]) : 150;
        int first = args.length > 1 ? Integer.parseInt(args[1]) : 0;
        for (int seed = first; seed < first + runs; seed++) {
            ModelTest test = new ModelTest(seed);
            if (test.run()) continue;
            System.out.println("run " + seed + " fails after these calls:");
            for (String line : test.told) System.out.println("  " + line);
            System.exit(1);
        }
        System.out.println("ModelTest: " + runs + " runs are as due");
    }
}
