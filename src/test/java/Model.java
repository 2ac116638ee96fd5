import java.nio.charset.StandardCharsets;
import java.util.ArrayDeque;
import java.util.ArrayList;
import java.util.Comparator;
import java.util.Deque;
import java.util.HashSet;
import java.util.LinkedHashMap;
import java.util.LinkedHashSet;
import java.util.List;
import java.util.Map;
import java.util.Set;
import java.util.TreeMap;
import java.util.TreeSet;
import java.util.function.IntPredicate;

/** The document once more, told plainly with the Java library and worked out anew for every state. */
final class Model {
    static final List<String> ROLES = List.of("place", "thing", "part", "act", "agent", "form");
    static final List<String> WAYS = List.of("plain", "whole", "near");
    static final Set<String> KEYS = Set.of("law", "see", "string", "place", "thing", "part", "act", "agent",
        "form", "plain", "whole", "near", "not", "via", "back");

    record Term(int role, boolean leads, String w, String via, String back) { }

    record Str(int address, List<Term> terms) { }

    record Token(String text, int place) { }

    record Pair(int role, String w) { }

    static final class Fault extends RuntimeException {
        final int number;
        final int place;

        Fault(int number, int place) {
            this.number = number;
            this.place = place;
        }
    }

    static final class State {
        List<Str> strings = new ArrayList<>();
        Map<Integer, Integer> laws = new TreeMap<>();
        LinkedHashMap<String, String> sees = new LinkedHashMap<>();

        State copy() {
            State other = new State();
            other.strings = new ArrayList<>(strings);
            other.laws = new TreeMap<>(laws);
            other.sees = new LinkedHashMap<>(sees);
            return other;
        }

        int way(int role) {
            return laws.getOrDefault(role, 0);
        }

        String used(String w) {
            return w == null ? null : sees.containsKey(w) ? used(sees.get(w)) : w;
        }
    }

    final class Entry {
        final int string;
        final int place;
        final List<Integer> above = new ArrayList<>();
        final List<Integer> below = new ArrayList<>();
        int lost;

        Entry(State state, int string, int place) {
            this.string = string;
            this.place = place;
            List<Term> terms = state.strings.get(string).terms();
            List<Integer> ahead = new ArrayList<>();
            List<Integer> behind = new ArrayList<>();
            for (int i = 0; i < terms.size(); i++) {
                if (i < place) ahead.add(0, i);
                if (i > place) behind.add(i);
            }
            switch (WAYS.get(state.way(terms.get(place).role()))) {
                case "plain" -> { above.addAll(ahead); below.addAll(behind); }
                case "near" -> { above.addAll(ahead); above.addAll(behind); }
                default -> {
                    for (int i = 0; i < terms.size(); i++) if (i != place) below.add(i);
                }
            }
            dropDoubles(above);
            dropDoubles(below);
        }

        private void dropDoubles(List<Integer> row) {
            for (int i = 0; i < row.size(); ) {
                int ahead = i == 0 ? place : row.get(i - 1);
                if (word(string, row.get(i)).equals(word(string, ahead))) {
                    lost |= 1 << row.get(i);
                    row.remove(i);
                } else {
                    i++;
                }
            }
        }

        String lead() {
            return word(string, place);
        }

        List<String> words(List<Integer> row) {
            return row.stream().map(i -> word(string, i)).toList();
        }

        List<List<String>> shape() {
            return List.of(List.of(lead()), words(above), words(below));
        }

        int address() {
            return now.strings.get(string).address();
        }
    }

    State now = new State();
    final Deque<State> history = new ArrayDeque<>();
    List<Integer> tape = new ArrayList<>();
    String out = "";
    int fault = 0;
    int faultPlace = -1;

    // ---- helpers ----

    String word(int s, int i) {
        return now.used(now.strings.get(s).terms().get(i).w());
    }

    List<Term> terms(int s) {
        return now.strings.get(s).terms();
    }

    boolean noString(int s) {
        return s < 0 || s >= now.strings.size();
    }

    boolean noTerm(int s, int i) {
        return noString(s) || i < 0 || i >= terms(s).size();
    }

    // A state never changes once it is the one of now, so what follows from it is kept as long as it is.
    private State worked = null;
    private List<String> workedWords;
    private List<Entry> workedEntries;
    private List<List<Entry>> workedLines;

    private void work() {
        if (worked == now) return;
        worked = now;
        TreeSet<String> all = new TreeSet<>();
        for (int s = 0; s < now.strings.size(); s++) all.addAll(wordSet(s));
        workedWords = new ArrayList<>(all);
        workedEntries = sortedEntries();
        Map<List<List<String>>, List<Entry>> lines = new LinkedHashMap<>();
        for (Entry e : workedEntries) lines.computeIfAbsent(e.shape(), x -> new ArrayList<>()).add(e);
        workedLines = new ArrayList<>(lines.values());
    }

    List<String> wordList() {
        work();
        return workedWords;
    }

    List<Entry> entries() {
        work();
        return workedEntries;
    }

    List<List<Entry>> lines() {
        work();
        return workedLines;
    }

    Set<String> wordSet(int s) {
        Set<String> all = new LinkedHashSet<>();
        for (int i = 0; i < terms(s).size(); i++) all.add(word(s, i));
        return all;
    }

    boolean noWord(int word) {
        return word < 0 || word >= wordList().size();
    }

    static int compareLists(List<String> a, List<String> b) {
        for (int i = 0; i < Math.min(a.size(), b.size()); i++) {
            int order = a.get(i).compareTo(b.get(i));
            if (order != 0) return order;
        }
        return a.size() - b.size();
    }

    private List<Entry> sortedEntries() {
        List<Entry> all = new ArrayList<>();
        for (int s = 0; s < now.strings.size(); s++) {
            for (int i = 0; i < terms(s).size(); i++) {
                if (terms(s).get(i).leads()) all.add(new Entry(now, s, i));
            }
        }
        Comparator<Entry> order = Comparator.comparing(Entry::lead);
        order = order.thenComparing((a, b) -> compareLists(a.words(a.above), b.words(b.above)));
        order = order.thenComparing((a, b) -> compareLists(a.words(a.below), b.words(b.below)));
        order = order.thenComparing(Entry::address).thenComparing(e -> e.place);
        all.sort(order);
        return all;
    }

    List<String> heads() {
        return new ArrayList<>(new LinkedHashSet<>(entries().stream().map(Entry::lead).toList()));
    }

    TreeSet<Integer> addresses(List<Entry> line) {
        TreeSet<Integer> all = new TreeSet<>();
        for (Entry e : line) all.add(e.address());
        return all;
    }

    String printed(List<Entry> line) {
        Entry e = line.get(0);
        StringBuilder text = new StringBuilder(e.lead());
        for (int i : e.above) {
            String back = now.used(terms(e.string).get(i).back());
            text.append(", ").append(word(e.string, i)).append(back == null ? "" : " " + back);
        }
        List<String> below = new ArrayList<>();
        for (int i : e.below) {
            String via = now.used(terms(e.string).get(i).via());
            below.add((via == null ? "" : via + " ") + word(e.string, i));
        }
        if (!below.isEmpty()) text.append(": ").append(String.join(". ", below));
        List<String> numbers = addresses(line).stream().map(String::valueOf).toList();
        return text.append(" ").append(String.join(",", numbers)).toString();
    }

    static int bits(int size, IntPredicate has) {
        int all = 0;
        for (int i = 0; i < size; i++) if (has.test(i)) all |= 1 << i;
        return all;
    }

    static int pick(List<Integer> found, int k) {
        if (k == -1) return found.size();
        return k < found.size() ? found.get(k) : -1;
    }

    static int fewest(int size, IntPredicate fits) {
        for (int count = 0; count <= size; count++) {
            for (int set = 0; set < 1 << size; set++) {
                if (Integer.bitCount(set) == count && fits.test(set)) return set;
            }
        }
        return -1;
    }

    Set<Pair> sense(int s) {
        Set<Pair> all = new HashSet<>();
        for (int i = 0; i < terms(s).size(); i++) all.add(new Pair(terms(s).get(i).role(), word(s, i)));
        return all;
    }

    String tapeText() {
        byte[] bytes = new byte[tape.size()];
        for (int i = 0; i < bytes.length; i++) bytes[i] = (byte) (int) tape.get(i);
        return new String(bytes, StandardCharsets.ISO_8859_1);
    }

    void act(State next) {
        history.addLast(now);
        if (history.size() > 10) history.removeFirst();
        now = next;
    }

    // ---- the TEXT ----

    final class Parser {
        final String text;
        final List<Token> tokens = new ArrayList<>();
        final State state;
        int at = 0;
        int lines = 0;

        Parser(String text, State state) {
            this.text = text;
            this.state = state;
            var m = java.util.regex.Pattern.compile("[a-z]+|[0-9]+|[^ \n]", java.util.regex.Pattern.DOTALL).matcher(text);
            while (m.find()) tokens.add(new Token(m.group(), m.start()));
            tokens.add(new Token("", text.length()));
        }

        String peek() {
            return tokens.get(at).text();
        }

        Fault fault(int number) {
            return new Fault(number, tokens.get(at).place());
        }

        boolean takes(String word) {
            if (!peek().equals(word)) return false;
            at++;
            return true;
        }

        void needs(String word) {
            if (!takes(word)) throw fault(1);
        }

        boolean isName() {
            return peek().matches("[a-z]{1,7}") && !KEYS.contains(peek());
        }

        String name() {
            if (!isName()) throw fault(1);
            return tokens.get(at++).text();
        }

        void wholeText() {
            while (!peek().isEmpty()) {
                if (takes("law")) law();
                else if (peek().equals("see")) see();
                else if (peek().equals("string")) {
                    if (state.strings.size() == 12) throw fault(4);
                    at++;
                    string();
                } else throw fault(1);
                needs(";");
                lines++;
            }
        }

        void law() {
            int role = ROLES.indexOf(peek());
            if (role < 0) throw fault(1);
            if (state.laws.containsKey(role)) throw fault(3);
            at++;
            int way = WAYS.indexOf(peek());
            if (way < 0) throw fault(1);
            at++;
            state.laws.put(role, way);
        }

        void see() {
            if (state.sees.size() == 12) throw fault(4);
            at++;
            if (isName() && state.sees.containsKey(peek())) throw fault(3);
            String from = name();
            if (isName()) {
                for (String w = peek(); w != null; w = state.sees.get(w)) if (w.equals(from)) throw fault(3);
            }
            state.sees.put(from, name());
        }

        void string() {
            if (!peek().matches("[0-9]+")) throw fault(1);
            java.math.BigInteger number = new java.math.BigInteger(peek());
            if (number.bitLength() > 20 || number.intValue() > 999) throw fault(2);
            int address = number.intValue();
            if (state.strings.stream().anyMatch(s -> s.address() == address)) throw fault(3);
            at++;
            needs(":");
            List<Term> terms = new ArrayList<>();
            do term(terms); while (takes(","));
            state.strings.add(new Str(address, terms));
        }

        void term(List<Term> terms) {
            boolean fits = peek().equals("not") || ROLES.contains(peek());
            if (!fits) throw fault(1);
            if (terms.size() == 6) throw fault(4);
            boolean not = takes("not");
            int role = ROLES.indexOf(peek());
            if (role < 0) throw fault(1);
            if (!terms.isEmpty() && terms.get(terms.size() - 1).role() > role) throw fault(5);
            at++;
            String w = name();
            String via = takes("via") ? name() : null;
            String back = takes("back") ? name() : null;
            terms.add(new Term(role, !not, w, via, back));
        }
    }

    // ---- the face ----

    public int feed(int a, int b, int c, int d, int e) {
        if (tape.size() + 20 > 1200) return -1;
        for (int four : new int[] {a, b, c, d, e}) {
            for (byte octet : java.nio.ByteBuffer.allocate(4).putInt(four).array()) tape.add(octet & 255);
        }
        return tape.size();
    }

    public int end(int n) {
        if (n < 0 || n > tape.size()) return -1;
        tape = new ArrayList<>(tape.subList(0, n));
        return n;
    }

    public int text() {
        Parser parser = new Parser(tapeText(), new State());
        tape.clear();
        try {
            parser.wholeText();
        } catch (Fault f) {
            fault = f.number;
            faultPlace = f.place;
            return -4;
        }
        fault = 0;
        faultPlace = -1;
        now = parser.state;
        history.clear();
        return parser.lines;
    }

    public int fault(int what) {
        return what == 0 ? fault : what == 1 ? faultPlace : -1;
    }

    public int count(int what) {
        return switch (what) {
            case 0 -> now.strings.size();
            case 1 -> now.strings.stream().mapToInt(s -> s.terms().size()).sum();
            case 2 -> now.sees.size();
            case 3 -> wordList().size();
            case 4 -> entries().size();
            case 5 -> lines().size();
            case 6 -> heads().size();
            case 7 -> history.size();
            case 8 -> tape.size();
            case 9 -> out.length();
            default -> -1;
        };
    }

    public int string(int s, int what) {
        if (noString(s)) return -2;
        return switch (what) {
            case 0 -> now.strings.get(s).address();
            case 1 -> terms(s).size();
            case 2 -> (int) terms(s).stream().filter(Term::leads).count();
            case 3 -> entries().stream().filter(e -> e.string == s).mapToInt(e -> Integer.bitCount(e.lost)).sum();
            case 4 -> (int) wordSet(s).stream().filter(w -> bitsOf(s, w) > 1).count();
            default -> -2;
        };
    }

    private int bitsOf(int s, String w) {
        return Integer.bitCount(bits(terms(s).size(), i -> word(s, i).equals(w)));
    }

    public int term(int s, int i, int what) {
        if (noTerm(s, i)) return -2;
        Term t = terms(s).get(i);
        return switch (what) {
            case 0 -> t.role();
            case 1 -> t.leads() ? 1 : 0;
            case 2 -> wordList().indexOf(word(s, i));
            case 3 -> t.via() == null ? 0 : now.used(t.via()).length();
            case 4 -> t.back() == null ? 0 : now.used(t.back()).length();
            default -> -2;
        };
    }

    public int letter(int word, int i) {
        if (noWord(word) || i < 0 || i > 6) return -2;
        String w = wordList().get(word);
        return i < w.length() ? w.charAt(i) - 'a' + 1 : 0;
    }

    public int way(int role) {
        return role < 0 || role > 5 ? -2 : now.way(role);
    }

    public int find() {
        String w = tapeText();
        tape.clear();
        return w.matches("[a-z]{1,7}") ? wordList().indexOf(now.used(w)) : -2;
    }

    public int at(int address) {
        if (address < 0 || address > 999) return -2;
        return now.strings.stream().map(Str::address).toList().indexOf(address);
    }

    public int entry(int k, int what) {
        if (k < 0 || what < 0 || what > 5) return -2;
        if (k >= entries().size()) return -1;
        Entry e = entries().get(k);
        return switch (what) {
            case 0 -> e.string;
            case 1 -> e.place;
            case 2 -> lineOf(e);
            case 3 -> e.above.size();
            case 4 -> e.below.size();
            default -> Integer.bitCount(e.lost);
        };
    }

    private int lineOf(Entry e) {
        return lines().stream().map(l -> l.get(0).shape()).toList().indexOf(e.shape());
    }

    public int row(int k, int below, int i) {
        if (k < 0 || i < 0 || below < 0 || below > 1) return -2;
        if (k >= entries().size()) return -1;
        Entry e = entries().get(k);
        List<String> row = e.words(below == 1 ? e.below : e.above);
        return i < row.size() ? wordList().indexOf(row.get(i)) : -1;
    }

    public int line(int l, int what) {
        if (l < 0 || l >= lines().size()) return -2;
        List<Entry> line = lines().get(l);
        return switch (what) {
            case 0 -> lines().subList(0, l).stream().mapToInt(List::size).sum();
            case 1 -> line.size();
            case 2 -> addresses(line).size();
            case 3 -> heads().indexOf(line.get(0).lead());
            default -> -2;
        };
    }

    public int address(int l, int k) {
        if (l < 0 || l >= lines().size() || k < 0) return -2;
        List<Integer> all = new ArrayList<>(addresses(lines().get(l)));
        return k < all.size() ? all.get(k) : -1;
    }

    public int head(int h, int what) {
        if (h < 0 || h >= heads().size()) return -2;
        String w = heads().get(h);
        List<Entry> under = entries().stream().filter(e -> e.lead().equals(w)).toList();
        return switch (what) {
            case 0 -> wordList().indexOf(w);
            case 1 -> (int) under.stream().map(Entry::shape).distinct().count();
            case 2 -> under.size();
            case 3 -> (int) under.stream().map(e -> e.string).distinct().count();
            default -> -2;
        };
    }

    public int print(int l) {
        if (l < 0 || l >= lines().size()) return -2;
        out = printed(lines().get(l));
        return out.length();
    }

    public int printAll() {
        out = "";
        int done = 0;
        for (List<Entry> line : lines()) {
            String more = out + printed(line) + "\n";
            if (more.length() > 2000) break;
            out = more;
            done++;
        }
        return done;
    }

    public int octet(int i) {
        return i < 0 || i >= out.length() ? -1 : out.charAt(i);
    }

    public int rebuilt(int k) {
        if (k < 0) return -2;
        if (k >= entries().size()) return -1;
        List<List<String>> shape = entries().get(k).shape();
        return entries().stream().filter(e -> e.shape().equals(shape)).mapToInt(e -> e.string).min().getAsInt();
    }

    public int begins(int k) {
        String start = tapeText();
        tape.clear();
        if (k < -1 || !start.matches("[a-z]{0,7}")) return -2;
        List<Integer> found = new ArrayList<>();
        for (int h = 0; h < heads().size(); h++) if (heads().get(h).startsWith(start)) found.add(h);
        return pick(found, k);
    }

    public int having(int word, int role) {
        if (noWord(word) || role < -1 || role > 5) return -2;
        String w = wordList().get(word);
        return bits(now.strings.size(), s -> role == -1 ? wordSet(s).contains(w) : sense(s).contains(new Pair(role, w)));
    }

    public int sharing(int s, int set) {
        if (noString(s) || set < 0 || set > (1 << terms(s).size()) - 1) return -2;
        return bits(now.strings.size(), t -> hasAll(s, set, t));
    }

    private boolean hasAll(int s, int set, int t) {
        for (int i = 0; i < terms(s).size(); i++) {
            if ((set & 1 << i) != 0 && !wordSet(t).contains(word(s, i))) return false;
        }
        return true;
    }

    public int alike(int s, int t) {
        if (noString(s) || noString(t)) return -2;
        if (rolesAndWords(s).equals(rolesAndWords(t))) return 2;
        return sense(s).equals(sense(t)) ? 1 : 0;
    }

    private List<Pair> rolesAndWords(int s) {
        List<Pair> all = new ArrayList<>();
        for (int i = 0; i < terms(s).size(); i++) all.add(new Pair(terms(s).get(i).role(), word(s, i)));
        return all;
    }

    public int common(int s, int t, int what) {
        if (noString(s) || noString(t) || what < 0 || what > 1) return -2;
        Set<Pair> all = sense(s);
        if (what == 0) all.retainAll(sense(t));
        else all.addAll(sense(t));
        return all.size();
    }

    public int nearest(int s) {
        if (noString(s)) return -2;
        int best = -1;
        for (int t = now.strings.size() - 1; t >= 0; t--) {
            int c = common(s, t, 0);
            if (t != s && c > 0 && (best == -1 || c >= common(s, best, 0))) best = t;
        }
        return best;
    }

    public int senses() {
        Set<Set<Pair>> all = new HashSet<>();
        for (int s = 0; s < now.strings.size(); s++) all.add(sense(s));
        return all.size();
    }

    public int beside(int word, int what, int k) {
        if (noWord(word) || what < 0 || what > 1 || k < -1) return -2;
        TreeSet<Integer> found = new TreeSet<>();
        for (int s = 0; s < now.strings.size(); s++) {
            List<String> row = new ArrayList<>();
            for (int i = 0; i < terms(s).size(); i++) row.add(word(s, i));
            if (what == 1) java.util.Collections.reverse(row);
            for (int i = 0; i + 1 < row.size(); i++) {
                if (row.get(i + 1).equals(wordList().get(word))) found.add(wordList().indexOf(row.get(i)));
            }
        }
        return pick(new ArrayList<>(found), k);
    }

    public int often(int word) {
        return noWord(word) ? -2 : Integer.bitCount(having(word, -1));
    }

    public int most(int k) {
        if (k < 0) return -2;
        List<Integer> all = new ArrayList<>();
        for (int w = 0; w < wordList().size(); w++) all.add(w);
        all.sort(Comparator.comparing((Integer w) -> -often(w)).thenComparing(w -> w));
        return k < all.size() ? all.get(k) : -1;
    }

    public int apart(int s) {
        if (noString(s)) return -2;
        return fewest(terms(s).size(), set -> (sharing(s, set) & ~(1 << s)) == 0);
    }

    public int cover() {
        List<String> all = wordList();
        if (all.isEmpty()) return -1;
        List<Set<String>> sets = new ArrayList<>();
        for (int s = 0; s < now.strings.size(); s++) sets.add(wordSet(s));
        return fewest(sets.size(), set -> {
            Set<String> covered = new HashSet<>();
            for (int s = 0; s < sets.size(); s++) if ((set & 1 << s) != 0) covered.addAll(sets.get(s));
            return covered.containsAll(all);
        });
    }

    public int would(int role, int way, int what) {
        if (role < 0 || role > 5 || way < 0 || way > 2 || what < 0 || what > 2) return -2;
        State kept = now;
        now = kept.copy();
        now.laws.put(role, way);
        int answer = what == 0 ? entries().size() : what == 1 ? lines().size()
            : entries().stream().mapToInt(e -> Integer.bitCount(e.lost)).sum();
        now = kept;
        return answer;
    }

    public int adds() {
        if (now.strings.size() == 12) return -5;
        State next = now.copy();
        Parser parser = new Parser(tapeText(), next);
        tape.clear();
        try {
            parser.string();
            parser.needs(";");
            if (!parser.peek().isEmpty()) throw parser.fault(1);
        } catch (Fault f) {
            fault = f.number;
            faultPlace = f.place;
            return -4;
        }
        fault = 0;
        faultPlace = -1;
        act(next);
        return next.strings.size() - 1;
    }

    public int drops(int s) {
        if (noString(s)) return -2;
        State next = now.copy();
        next.strings.remove(s);
        act(next);
        return next.strings.size();
    }

    public int law(int role, int way) {
        if (role < 0 || role > 5 || way < 0 || way > 2) return -2;
        int old = now.way(role);
        if (old != way) {
            State next = now.copy();
            next.laws.put(role, way);
            act(next);
        }
        return old;
    }

    private void replaceTerms(State next, int s, List<Term> terms) {
        next.strings.set(s, new Str(next.strings.get(s).address(), terms));
    }

    public int lead(int s, int i, int leads) {
        if (noTerm(s, i) || leads < 0 || leads > 1) return -2;
        Term t = terms(s).get(i);
        if (t.leads() == (leads == 1)) return leads;
        State next = now.copy();
        List<Term> changed = new ArrayList<>(terms(s));
        changed.set(i, new Term(t.role(), leads == 1, t.w(), t.via(), t.back()));
        replaceTerms(next, s, changed);
        act(next);
        return 1 - leads;
    }

    public int swaps(int s, int i, int j) {
        if (noTerm(s, i) || noTerm(s, j) || i == j) return -2;
        List<Term> changed = new ArrayList<>(terms(s));
        java.util.Collections.swap(changed, i, j);
        for (int k = 1; k < changed.size(); k++) if (changed.get(k).role() < changed.get(k - 1).role()) return -6;
        State next = now.copy();
        replaceTerms(next, s, changed);
        act(next);
        return 1;
    }

    public int see(int word, int other) {
        if (noWord(word) || noWord(other)) return -2;
        if (now.sees.size() == 12) return -5;
        if (word == other) return -6;
        State next = now.copy();
        next.sees.put(wordList().get(word), wordList().get(other));
        act(next);
        return next.sees.size();
    }

    public int forget(int k) {
        if (k < 0) return -2;
        if (k >= now.sees.size()) return -1;
        State next = now.copy();
        next.sees.remove(new ArrayList<>(next.sees.keySet()).get(k));
        act(next);
        return next.sees.size();
    }

    public int moves(int s, int address) {
        if (noString(s) || address < 0 || address > 999) return -2;
        int holder = at(address);
        if (holder != -1 && holder != s) return -6;
        int old = now.strings.get(s).address();
        if (old != address) {
            State next = now.copy();
            next.strings.set(s, new Str(address, terms(s)));
            act(next);
        }
        return old;
    }

    public int undo() {
        if (history.isEmpty()) return -1;
        now = history.removeLast();
        return history.size();
    }

    public int gather(int role, int k) {
        if (role < 0 || role > 5 || k < -1) return -2;
        List<Integer> found = new ArrayList<>();
        for (int w = 0; w < wordList().size(); w++) if (having(w, role) != 0) found.add(w);
        return pick(found, k);
    }

    public int lost(int k) {
        if (k < 0) return -2;
        if (k >= entries().size()) return -1;
        Entry e = entries().get(k);
        return bits(terms(e.string).size(), i -> i != e.place && !e.above.contains(i) && !e.below.contains(i));
    }

    public int chain(int word, int other) {
        if (noWord(word) || noWord(other)) return -2;
        List<String> all = wordList();
        Set<String> reached = new HashSet<>(Set.of(all.get(word)));
        for (int steps = 0; steps <= all.size(); steps++) {
            if (reached.contains(all.get(other))) return steps;
            Set<String> next = new HashSet<>(reached);
            for (int s = 0; s < now.strings.size(); s++) {
                for (String w : wordSet(s)) {
                    if (reached.contains(w)) next.addAll(wordSet(s));
                }
            }
            reached = next;
        }
        return -1;
    }

    public int groups() {
        int size = wordList().size();
        int firsts = 0;
        for (int w = 0; w < size; w++) {
            boolean first = true;
            for (int v = 0; v < w && first; v++) first = chain(v, w) == -1;
            if (first) firsts++;
        }
        return firsts;
    }

    public int longest() {
        int best = -1;
        int most = -1;
        List<List<Entry>> all = lines();
        for (int l = 0; l < all.size(); l++) {
            if (printed(all.get(l)).length() > most) {
                most = printed(all.get(l)).length();
                best = l;
            }
        }
        return best;
    }

    public int shown(int word, int what) {
        if (noWord(word) || what < 0 || what > 2) return -2;
        String w = wordList().get(word);
        return (int) lines().stream().filter(l -> l.get(0).shape().get(what).contains(w)).count();
    }

    public int twins(int s) {
        if (noString(s)) return -2;
        Set<List<List<String>>> own = new HashSet<>();
        for (Entry e : entries()) if (e.string == s) own.add(e.shape());
        int found = 0;
        for (Entry e : entries()) if (e.string != s && own.contains(e.shape())) found |= 1 << e.string;
        return found;
    }

    public int rarest(int s) {
        if (noString(s)) return -2;
        int best = 0;
        for (int i = 1; i < terms(s).size(); i++) {
            if (often(term(s, i, 2)) < often(term(s, best, 2))) best = i;
        }
        return best;
    }

    public int crossed(int h, int g) {
        if (h < 0 || g < 0 || Math.max(h, g) >= heads().size()) return -2;
        Set<Integer> first = under(heads().get(h));
        Set<Integer> second = under(heads().get(g));
        return bits(now.strings.size(), s -> first.contains(s) && second.contains(s));
    }

    private Set<Integer> under(String w) {
        Set<Integer> all = new HashSet<>();
        for (Entry e : entries()) if (e.lead().equals(w)) all.add(e.string);
        return all;
    }

    public int shared(int role) {
        if (role < 0 || role > 5) return -2;
        int found = 0;
        for (int w = 0; w < wordList().size(); w++) if (having(w, role) != 0 && often(w) >= 2) found++;
        return found;
    }
}
