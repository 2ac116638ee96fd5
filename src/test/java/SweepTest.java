import java.lang.reflect.Method;
import java.lang.reflect.Modifier;
import java.util.ArrayList;
import java.util.Arrays;
import java.util.Comparator;
import java.util.List;

/** In a few states every call with every choice of arguments about the bounds, answered by the class and by the model. */
public final class SweepTest {
    private static final int MIN = Integer.MIN_VALUE;
    private static final int MAX = Integer.MAX_VALUE;
    /** Of calls with one or two arguments, and of those with three. */
    private static final int[] MANY = {MIN, MIN + 1, -65, -3, -2, -1, 0, 1, 2, 3, 4, 5, 6, 7, 8, 9, 10, 11, 12, 13, 31, 32, 33, 63, 64, 65,
        70, 71, 72, 73, 100, 998, 999, 1000, 1001, 1199, 1200, 1201, 1999, 2000, 4095, 4096, MAX - 1, MAX};
    private static final int[] FEWER = {MIN, -2, -1, 0, 1, 2, 3, 4, 5, 6, 7, 11, 12, 13, 71, 72, MAX};
    private static final List<String> ACTS = List.of("text", "adds", "drops", "law", "lead", "swaps", "see", "forget", "moves", "undo", "end",
        "find", "begins", "print", "printAll");
    private static final int CALLS = 512;

    private record Call(String name, int[] arguments) { }

    private final List<Call> state;
    private TurnedHeadings made;
    private Model model;
    private int calls;
    private long asked = 0;

    private SweepTest(List<Call> state) throws Exception {
        this.state = state;
        renew();
    }

    private void renew() throws Exception {
        made = new TurnedHeadings();
        model = new Model();
        calls = 0;
        for (Call call : state) answer(call);
    }

    private int answer(Call call) throws Exception {
        calls++;
        asked++;
        Class<?>[] types = new Class<?>[call.arguments.length];
        Arrays.fill(types, int.class);
        Object[] boxed = Arrays.stream(call.arguments).boxed().toArray();
        int got = (int) TurnedHeadings.class.getMethod(call.name, types).invoke(made, boxed);
        int want = (int) Model.class.getMethod(call.name, types).invoke(model, boxed);
        if (got == want) return got;
        System.out.println(call.name + Arrays.toString(call.arguments) + " answered " + got + ", due is " + want + ", behind");
        for (Call each : state) System.out.println("  " + each.name + Arrays.toString(each.arguments));
        System.exit(1);
        return got;
    }

    private void sweep(Method method) throws Exception {
        int size = method.getParameterCount();
        int[] values = size < 3 ? MANY : FEWER;
        int[] arguments = new int[size];
        int choices = 1;
        for (int i = 0; i < size; i++) choices *= values.length;
        for (int choice = 0; choice < choices; choice++) {
            for (int i = 0, rest = choice; i < size; i++, rest /= values.length) arguments[i] = values[rest % values.length];
            int got = answer(new Call(method.getName(), arguments.clone()));
            boolean changes = ACTS.contains(method.getName()) && (got >= 0 || size == 0 || method.getName().equals("begins"));
            if (changes || calls > CALLS - 20) {
                for (int what = 0; what < 10; what++) answer(new Call("count", new int[] {what}));
                renew();
            }
        }
    }

    // ---- states ----

    private static List<Call> said(String text) {
        List<Call> calls = new ArrayList<>();
        String full = text + " ".repeat((20 - text.length() % 20) % 20);
        for (int i = 0; i < full.length(); i += 20) {
            int[] five = new int[5];
            for (int j = 0; j < 20; j++) five[j / 4] = five[j / 4] << 8 | full.charAt(i + j);
            calls.add(new Call("feed", five));
        }
        calls.add(new Call("end", new int[] {text.length()}));
        return calls;
    }

    private static List<Call> told(String text, Object... more) {
        List<Call> calls = new ArrayList<>(said(text));
        calls.add(new Call("text", new int[0]));
        for (Object each : more) {
            if (each instanceof Call call) calls.add(call);
            else calls.addAll(said((String) each));
        }
        return calls;
    }

    private static Call call(String name, int... arguments) {
        return new Call(name, arguments);
    }

    private static String full() {
        StringBuilder text = new StringBuilder("law act near;");
        for (int s = 0; s < 12; s++) {
            text.append("string ").append(s == 0 ? 999 : s).append(":");
            for (int i = 0; i < 6; i++) text.append(i == 0 ? "act " : ",act ").append((char) ('a' + s)).append((char) ('a' + i));
            text.append(";");
        }
        return text.toString();
    }

    private static List<List<Call>> states() {
        List<List<Call>> all = new ArrayList<>();
        all.add(List.of());
        all.add(told(EdgesOfTerms.ACTED, call("law", 3, 1), call("see", 0, 1), call("print", 0), "b"));
        all.add(told(full(), call("printAll"), "0:act aa;"));
        all.add(told(EdgesOfTerms.sees(12) + "string 1:act x,act y;string 0:thing a,thing y,not act x;", call("printAll"), "998:act aa,form b;"));
        all.add(told(EdgesOfTerms.strings(0, 12).replaceAll("act .", "act a,form b,not form a"), call("law", 3, 1), call("law", 3, 2), call("law", 3, 0),
            call("moves", 0, 100), call("moves", 0, 200), call("moves", 0, 300), call("lead", 3, 2, 1), call("swaps", 4, 1, 2), call("lead", 0, 0, 0),
            call("moves", 1, 999), call("moves", 1, 71), call("printAll"), "string 1:act a;"));
        all.add(told("string 5:not act a,not act b;string 7:not form a;", call("drops", 0), call("undo"), "1000:act x;"));
        return all;
    }

    public static void main(String[] args) throws Exception {
        List<Method> methods = Arrays.stream(TurnedHeadings.class.getDeclaredMethods())
            .filter(m -> Modifier.isPublic(m.getModifiers()) && m.getParameterCount() <= 3)
            .sorted(Comparator.comparing(Method::getName)).toList();
        long asked = 0;
        for (List<Call> state : states()) {
            SweepTest test = new SweepTest(state);
            for (Method method : methods) test.sweep(method);
            asked += test.asked;
        }
        System.out.println("SweepTest: " + asked + " answers are as due");
    }
}
