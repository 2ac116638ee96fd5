import java.lang.reflect.Method;
import java.lang.reflect.Modifier;
import java.util.ArrayList;
import java.util.Arrays;
import java.util.Comparator;
import java.util.List;
import java.util.Random;

/** Long runs of drawn calls, each answered by the class and by the model. Argument: how many runs. */
public final class ModelTest {
    private static final int CALLS = 512;
    private static final String[][] VOCABULARIES = {
        {"a", "b"},
        {"a", "b", "c", "ab", "abc"},
        {"cars", "doors", "texas", "repair", "robots", "autos", "in", "of", "by"},
        {"aaaaaaa", "aaaaaab", "aaaaaa", "zzzzzzz", "abcdefg", "gfedcba", "mmmmmmm", "nnnnnnn", "ooooooo", "qqqqqqq"},
        {"a", "b", "c", "d", "e", "f", "g", "h", "i", "j", "k", "l", "m", "n", "o", "p", "q", "r", "s", "t", "u",
            "v", "w", "x", "y", "z", "aa", "ab", "ac", "ad", "ae", "af", "ag", "ah", "ai", "aj", "ak", "al", "am",
            "an", "ao", "ap", "aq", "ar", "at", "au", "av", "aw", "ax", "ay", "az", "ba", "bb", "bc", "bd", "be",
            "bf", "bg", "bh", "bi", "bj", "bk", "bl", "bm", "bn", "bo", "bp", "bq", "br", "bs", "bt"},
    };
    private static final String[] PIECES = {
        "law", "see", "string", "place", "thing", "part", "act", "agent", "form", "plain", "whole", "near", "not",
        "via", "back", ";", ":", ",", "0", "999", "1000", "007", "99999999999999999999", "abcdefgh", "A", "!", "\t",
        "\u00e9", "\u0080", "\u0000", " ", "\n", "x", "strings", "5a", "a5",
    };

    private final Random random;
    private final TurnedHeadings made = new TurnedHeadings();
    private final Model model = new Model();
    private final List<String> told = new ArrayList<>();
    private final String[] vocabulary;
    private final Method[] methods;
    private int calls = 0;

    private ModelTest(long seed) {
        random = new Random(seed);
        vocabulary = VOCABULARIES[random.nextInt(VOCABULARIES.length)];
        methods = Arrays.stream(TurnedHeadings.class.getDeclaredMethods())
            .filter(m -> Modifier.isPublic(m.getModifiers()))
            .sorted(Comparator.comparing(Method::getName)).toArray(Method[]::new);
    }

    private boolean call(String name, int... arguments) throws Exception {
        if (calls >= CALLS) return true;
        calls++;
        Class<?>[] types = new Class<?>[arguments.length];
        Arrays.fill(types, int.class);
        Object[] boxed = Arrays.stream(arguments).boxed().toArray();
        int want = (int) Model.class.getMethod(name, types).invoke(model, boxed);
        int got = (int) TurnedHeadings.class.getMethod(name, types).invoke(made, boxed);
        told.add(name + Arrays.toString(arguments) + " -> " + got);
        if (got == want) return true;
        System.out.println("call " + calls + " " + name + Arrays.toString(arguments) + " answered " + got + ", due is " + want);
        return false;
    }

    private boolean say(String text) throws Exception {
        String tail = " ".repeat((20 - text.length() % 20) % 20);
        String full = text + tail;
        int before = model.tape.size();
        for (int i = 0; i < full.length(); i += 20) {
            int[] five = new int[5];
            for (int j = 0; j < 20; j++) five[j / 4] = five[j / 4] << 8 | full.charAt(i + j);
            if (!call("feed", five)) return false;
        }
        return call("end", Math.min(before + text.length(), model.tape.size()));
    }

    private int below(int bound) {
        return random.nextInt(bound);
    }

    private boolean often(int percent) {
        return below(100) < percent;
    }

    private String name() {
        return vocabulary[below(vocabulary.length)];
    }

    private String gap() {
        return often(90) ? " " : often(50) ? "\n" : "  ";
    }

    private String heading() {
        StringBuilder text = new StringBuilder();
        text.append(often(85) ? below(1000) : below(12)).append(often(50) ? " : " : ":");
        int count = often(40) ? 6 : 1 + below(6);
        if (often(2)) count = 7;
        List<Integer> roles = new ArrayList<>();
        int some = 1 + below(6);
        for (int i = 0; i < count; i++) roles.add(below(some));
        if (!often(2)) roles.sort(null);
        for (int i = 0; i < count; i++) {
            if (i > 0) text.append(often(50) ? ", " : ",");
            if (often(15)) text.append("not").append(gap());
            text.append(Model.ROLES.get(roles.get(i))).append(gap()).append(name());
            if (often(15)) text.append(gap()).append("via").append(gap()).append(name());
            if (often(15)) text.append(gap()).append("back").append(gap()).append(name());
        }
        return text.append(";").toString();
    }

    private String wholeText() {
        StringBuilder text = new StringBuilder();
        int laws = below(4);
        for (int i = 0; i < laws; i++) {
            text.append("law ").append(Model.ROLES.get(often(97) ? i : below(6))).append(" ");
            text.append(Model.WAYS.get(below(3))).append(";");
        }
        int sees = often(60) ? 0 : often(80) ? below(4) : 8 + below(6);
        for (int i = 0; i < sees; i++) {
            String from = often(60) ? name() : "s" + (char) ('a' + i);
            String to = often(60) ? name() : "s" + (char) ('a' + i + 1);
            text.append("see ").append(from).append(gap()).append(to).append(";");
        }
        int strings = often(30) ? 12 : often(97) ? below(12) : 13;
        for (int i = 0; i < strings; i++) text.append("string ").append(heading());
        return often(12) ? spoilt(text.toString()) : text.toString();
    }

    private String spoilt(String text) {
        int at = below(text.length() + 1);
        int until = Math.min(text.length(), at + below(4));
        String piece = often(70) ? PIECES[below(PIECES.length)] : "";
        return text.substring(0, at) + (often(50) ? " " + piece + " " : piece) + text.substring(until);
    }

    private int argument() {
        switch (below(12)) {
            case 0: return -1;
            case 1: return -2 + below(3);
            case 2: return below(80);
            case 3: return below(64);
            case 4: return often(10) ? random.nextInt() : below(1002);
            case 5: return often(20) ? (often(50) ? Integer.MIN_VALUE : Integer.MAX_VALUE) : below(6);
            case 6: case 7: return below(12);
            default: return below(6);
        }
    }

    private boolean drawnCall() throws Exception {
        int draw = below(100);
        if (draw < 3) return say(wholeText()) && call("text") && call("fault", 0) && call("fault", 1);
        if (draw < 8) {
            String text = heading();
            return say(often(85) ? text : spoilt(text)) && call("adds") && call("fault", 0) && call("fault", 1);
        }
        if (draw < 11) return say(often(80) ? name() : PIECES[below(PIECES.length)]) && call("find");
        if (draw < 14) return say(name().substring(0, 1)) && call("begins", argument());
        if (draw < 15) return call("feed", random.nextInt(), random.nextInt(), 0, 0x20202020, random.nextInt());
        if (draw < 18) return call("undo");
        Method method = methods[below(methods.length)];
        String name = method.getName();
        if (name.equals("text") && often(80) || name.equals("feed") && often(90)) return true;
        int[] arguments = new int[method.getParameterCount()];
        for (int i = 0; i < arguments.length; i++) arguments[i] = argument();
        return call(name, arguments);
    }

    private boolean checkAll() throws Exception {
        for (int what = 0; what < 10; what++) if (!call("count", what)) return false;
        if (!call("printAll")) return false;
        for (int i = 0; i < model.out.length(); i++) {
            if (made.octet(i) != model.octet(i)) {
                System.out.println("octet " + i + " of OUT is not as due");
                return false;
            }
        }
        return true;
    }

    private boolean run() throws Exception {
        if (!say(often(80) ? wholeText() : "") || !call("text")) return false;
        while (calls < CALLS) {
            if (!drawnCall()) return false;
            if (often(2) && !checkAll()) return false;
        }
        return true;
    }

    public static void main(String[] args) throws Exception {
        int runs = args.length > 0 ? Integer.parseInt(args[0]) : 150;
        int first = args.length > 1 ? Integer.parseInt(args[1]) : 0;
        for (int seed = first; seed < first + runs; seed++) {
            ModelTest test = new ModelTest(seed);
            if (test.run()) continue;
            System.out.println("run " + seed + " fails after these calls:");
            for (String line : test.told) System.out.println("  " + line);
            System.exit(1);
        }
        System.out.println("ModelTest: " + runs + " runs are as due");
    }
}
