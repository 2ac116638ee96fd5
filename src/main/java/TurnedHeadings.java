/** Strings of terms in ordered roles, turned so that every term that may leads once (../shared/DOC.md). */
public final class TurnedHeadings {
    public static final int NONE = -1;

    private static final int WRONG = -2;
    private static final int FAULTY = -4;
    private static final int FULL = -5;
    private static final int BARRED = -6;

    private static final int STRINGS = 12;
    private static final int TERMS = 6;
    private static final int ALL_TERMS = STRINGS * TERMS;
    private static final int SEES = 12;
    private static final int ADDRESSES = 1000;
    private static final int ACTS = 10;

    private static final int ROLES = 6;
    private static final int WAYS = 3;
    private static final int PLAIN = 0;
    private static final int WHOLE = 1;
    private static final int NEAR = 2;

    private static final int TAPE_BYTES = 1200;
    private static final int FEED_BYTES = 20;
    private static final int OUT_BYTES = 2000;
    // The longest LINE has 140 bytes: a LEAD, five TERMS with joins, twelve ADDRESSES.
    private static final int LINE_BYTES = 160;
    private static final int LF = 10;

    // A name is a word of up to 7 letters in one long, 5 bits each, the first letter highest and
    // zeros behind the last: so names compare as numbers just as their words do, and 0 is no word.
    private static final int LETTERS = 7;
    private static final int LETTER_BITS = 5;
    private static final int LETTER_MASK = 31;
    private static final long SEVEN_LETTERS = 1L << LETTER_BITS * (LETTERS - 1);
    private static final long NO_NAME = 0;
    private static final long NOT_LETTERS = -1;

    private final Bytes tape = new Bytes(TAPE_BYTES);
    private final Bytes out = new Bytes(OUT_BYTES);
    private final Bytes printed = new Bytes(LINE_BYTES);
    private final Reader reader = new Reader();
    private final Book book = new Book();
    private final Book spare = new Book();
    private final History history = new History();
    private final Words words = new Words();
    private final Terms terms = new Terms();
    private final Turning turning = new Turning();
    private final Turning trial = new Turning();

    public TurnedHeadings() {
    }

    // ---- the TAPE and the TEXT ----

    public int feed(int a, int b, int c, int d, int e) {
        if (tape.size + FEED_BYTES > TAPE_BYTES) return NONE;
        tape.putFour(a);
        tape.putFour(b);
        tape.putFour(c);
        tape.putFour(d);
        tape.putFour(e);
        return tape.size;
    }

    public int end(int n) {
        if (n < 0 || n > tape.size) return NONE;
        tape.size = n;
        return n;
    }

    public int text() {
        boolean read = reader.readText(tape, spare);
        tape.size = 0;
        if (!read) return FAULTY;
        history.forgetAll();
        book.copyFrom(spare);
        renew();
        return reader.lines;
    }

    public int fault(int what) {
        switch (what) {
            case 0: return reader.fault;
            case 1: return reader.place;
            default: return NONE;
        }
    }

    // ---- what is held ----

    public int count(int what) {
        switch (what) {
            case 0: return book.size;
            case 1: return book.termsOfAll();
            case 2: return book.sees;
            case 3: return words.size;
            case 4: return turning.size;
            case 5: return turning.lines;
            case 6: return turning.heads;
            case 7: return history.size;
            case 8: return tape.size;
            case 9: return out.size;
            default: return NONE;
        }
    }

    public int string(int s, int what) {
        if (!isString(s)) return WRONG;
        switch (what) {
            case 0: return book.addresses[s];
            case 1: return book.sizes[s];
            case 2: return book.leadingOf(s);
            case 3: return turning.doublesOf(s);
            case 4: return terms.repeatedIn(s);
            default: return WRONG;
        }
    }

    public int term(int s, int i, int what) {
        if (!isTerm(s, i)) return WRONG;
        int t = s * TERMS + i;
        switch (what) {
            case 0: return book.roles[t];
            case 1: return book.leads[t];
            case 2: return terms.words[t];
            case 3: return lettersOf(terms.vias[t]);
            case 4: return lettersOf(terms.backs[t]);
            default: return WRONG;
        }
    }

    public int letter(int word, int i) {
        if (!isWord(word) || i < 0 || i >= LETTERS) return WRONG;
        return letterOf(words.names[word], i);
    }

    public int way(int role) {
        return isRole(role) ? book.ways[role] : WRONG;
    }

    public int find() {
        long name = tape.asName();
        tape.size = 0;
        if (name == NOT_LETTERS || name == NO_NAME) return WRONG;
        return words.numberOf(book.used(name));
    }

    public int at(int address) {
        return isAddress(address) ? book.stringAt(address) : WRONG;
    }

    // ---- ENTRIES, LINES, HEADS ----

    public int entry(int k, int what) {
        if (k < 0 || what < 0 || what > 5) return WRONG;
        if (k >= turning.size) return NONE;
        Entry entry = turning.entries[k];
        switch (what) {
            case 0: return entry.string;
            case 1: return entry.place;
            case 2: return entry.line;
            case 3: return entry.above;
            case 4: return entry.size - entry.above;
            default: return Integer.bitCount(entry.gone);
        }
    }

    public int row(int k, int below, int i) {
        if (k < 0 || below < 0 || below > 1 || i < 0) return WRONG;
        if (k >= turning.size) return NONE;
        Entry entry = turning.entries[k];
        int first = below == 0 ? 0 : entry.above;
        int behind = below == 0 ? entry.above : entry.size;
        return i < behind - first ? entry.words[first + i] : NONE;
    }

    public int line(int l, int what) {
        if (!isLine(l)) return WRONG;
        int first = turning.lineFirst[l];
        switch (what) {
            case 0: return first;
            case 1: return turning.lineFirst[l + 1] - first;
            case 2: return Integer.bitCount(turning.stringsOfLine(l));
            case 3: return turning.entries[first].head;
            default: return WRONG;
        }
    }

    public int address(int l, int k) {
        if (!isLine(l) || k < 0) return WRONG;
        int seen = 0;
        int latest = NONE;
        // ENTRIES of one LINE stand by their ADDRESSES.
        for (int e = turning.lineFirst[l]; e < turning.lineFirst[l + 1]; e++) {
            int address = turning.entries[e].address;
            if (address == latest) continue;
            if (seen == k) return address;
            latest = address;
            seen++;
        }
        return NONE;
    }

    public int head(int h, int what) {
        if (!isHead(h)) return WRONG;
        int first = turning.headFirst[h];
        int last = turning.headFirst[h + 1] - 1;
        switch (what) {
            case 0: return turning.entries[first].lead;
            case 1: return turning.entries[last].line - turning.entries[first].line + 1;
            case 2: return last - first + 1;
            case 3: return Integer.bitCount(turning.stringsOfHead(h));
            default: return WRONG;
        }
    }

    public int rebuilt(int k) {
        if (k < 0) return WRONG;
        if (k >= turning.size) return NONE;
        int strings = turning.stringsOfLine(turning.entries[k].line);
        for (int s = 0; s < book.size; s++) {
            if (hasBit(strings, s)) return s;
        }
        return NONE;
    }

    public int lost(int k) {
        if (k < 0) return WRONG;
        return k < turning.size ? turning.entries[k].gone : NONE;
    }

    public int shown(int word, int what) {
        if (!isWord(word) || what < 0 || what > 2) return WRONG;
        int seen = 0;
        for (int l = 0; l < turning.lines; l++) {
            if (turning.entries[turning.lineFirst[l]].shows(word, what)) seen++;
        }
        return seen;
    }

    public int twins(int s) {
        if (!isString(s)) return WRONG;
        int strings = 0;
        for (int l = 0; l < turning.lines; l++) {
            int inLine = turning.stringsOfLine(l);
            if (hasBit(inLine, s)) strings |= inLine;
        }
        return strings & ~(1 << s);
    }

    public int crossed(int h, int g) {
        if (!isHead(h) || !isHead(g)) return WRONG;
        return turning.stringsOfHead(h) & turning.stringsOfHead(g);
    }

    public int would(int role, int way, int what) {
        if (!isRole(role) || !isWay(way) || what < 0 || what > 2) return WRONG;
        spare.copyFrom(book);
        spare.ways[role] = way;
        trial.turnAll(spare, terms);
        switch (what) {
            case 0: return trial.size;
            case 1: return trial.lines;
            default: return trial.doublesOfAll();
        }
    }

    // ---- printing ----

    public int print(int l) {
        if (!isLine(l)) return WRONG;
        out.size = 0;
        turning.printLine(l, words, terms, out);
        return out.size;
    }

    public int printAll() {
        out.size = 0;
        for (int l = 0; l < turning.lines; l++) {
            if (out.size + printedSize(l) + 1 > OUT_BYTES) return l;
            out.putAll(printed);
            out.put(LF);
        }
        return turning.lines;
    }

    public int octet(int i) {
        return i >= 0 && i < out.size ? out.bytes[i] : NONE;
    }

    public int longest() {
        int best = NONE;
        int most = 0;
        for (int l = 0; l < turning.lines; l++) {
            int size = printedSize(l);
            if (size > most) {
                most = size;
                best = l;
            }
        }
        return best;
    }

    /** Prints beside OUT, which may have to stay as it is. */
    private int printedSize(int l) {
        printed.size = 0;
        turning.printLine(l, words, terms, printed);
        return printed.size;
    }

    // ---- searching for HEADS, STRINGS, WORDS ----

    public int begins(int k) {
        long beginning = tape.asName();
        int letters = tape.size;
        tape.size = 0;
        if (k < NONE || beginning == NOT_LETTERS) return WRONG;
        int seen = 0;
        for (int h = 0; h < turning.heads; h++) {
            long name = words.names[turning.entries[turning.headFirst[h]].lead];
            if (!beginsWith(name, beginning, letters)) continue;
            if (seen == k) return h;
            seen++;
        }
        return k == NONE ? seen : NONE;
    }

    public int having(int word, int role) {
        if (!isWord(word) || role != NONE && !isRole(role)) return WRONG;
        return role == NONE ? words.strings[word] : terms.stringsWith(role, word);
    }

    public int sharing(int s, int set) {
        if (!isString(s) || set < 0 || set >= 1 << book.sizes[s]) return WRONG;
        return stringsSharing(s, set);
    }

    private int stringsSharing(int s, int set) {
        int strings = (1 << book.size) - 1;
        for (int i = 0; i < book.sizes[s]; i++) {
            if (hasBit(set, i)) strings &= words.strings[terms.words[s * TERMS + i]];
        }
        return strings;
    }

    public int often(int word) {
        return isWord(word) ? words.stringCount(word) : WRONG;
    }

    public int most(int k) {
        if (k < 0) return WRONG;
        for (int word = 0; word < words.size; word++) {
            if (words.rankOf(word) == k) return word;
        }
        return NONE;
    }

    public int rarest(int s) {
        if (!isString(s)) return WRONG;
        int best = NONE;
        int fewest = STRINGS + 1;
        for (int i = 0; i < book.sizes[s]; i++) {
            int strings = words.stringCount(terms.words[s * TERMS + i]);
            if (strings < fewest) {
                fewest = strings;
                best = i;
            }
        }
        return best;
    }

    public int gather(int role, int k) {
        if (!isRole(role) || k < NONE) return WRONG;
        int seen = 0;
        for (int word = 0; word < words.size; word++) {
            if (terms.stringsWith(role, word) == 0) continue;
            if (seen == k) return word;
            seen++;
        }
        return k == NONE ? seen : NONE;
    }

    public int shared(int role) {
        if (!isRole(role)) return WRONG;
        int seen = 0;
        for (int word = 0; word < words.size; word++) {
            if (words.stringCount(word) >= 2 && terms.stringsWith(role, word) != 0) seen++;
        }
        return seen;
    }

    public int beside(int word, int what, int k) {
        if (!isWord(word) || what < 0 || what > 1 || k < NONE) return WRONG;
        int seen = 0;
        for (int other = 0; other < words.size; other++) {
            boolean stands = what == 0 ? terms.follow(other, word) : terms.follow(word, other);
            if (!stands) continue;
            if (seen == k) return other;
            seen++;
        }
        return k == NONE ? seen : NONE;
    }

    public int chain(int word, int other) {
        if (!isWord(word) || !isWord(other)) return WRONG;
        return word == other ? 0 : words.stepsBetween(word, other);
    }

    public int groups() {
        int seen = 0;
        int grouped = 0;
        for (int word = 0; word < words.size; word++) {
            if ((words.strings[word] & grouped) != 0) continue;
            grouped |= words.groupOf(word);
            seen++;
        }
        return seen;
    }

    public int cover() {
        if (words.size == 0) return NONE;
        int best = (1 << book.size) - 1;
        for (int set = 1; set < 1 << book.size; set++) {
            if (Integer.bitCount(set) < Integer.bitCount(best) && words.areAllIn(set)) best = set;
        }
        return best;
    }

    // ---- STRINGS among one another ----

    public int alike(int s, int t) {
        if (!isString(s) || !isString(t)) return WRONG;
        if (terms.areSame(s, t)) return 2;
        return terms.areOfOneSense(s, t) ? 1 : 0;
    }

    public int common(int s, int t, int what) {
        if (!isString(s) || !isString(t) || what < 0 || what > 1) return WRONG;
        int both = terms.inBoth(s, t);
        return what == 0 ? both : terms.senseSize(s) + terms.senseSize(t) - both;
    }

    public int nearest(int s) {
        if (!isString(s)) return WRONG;
        int best = NONE;
        int most = 0;
        for (int t = 0; t < book.size; t++) {
            int both = t == s ? 0 : terms.inBoth(s, t);
            if (both > most) {
                most = both;
                best = t;
            }
        }
        return best;
    }

    public int senses() {
        int seen = 0;
        for (int s = 0; s < book.size; s++) {
            if (terms.isFirstOfSense(s)) seen++;
        }
        return seen;
    }

    public int apart(int s) {
        if (!isString(s)) return WRONG;
        int best = NONE;
        for (int set = 0; set < 1 << book.sizes[s]; set++) {
            boolean fewer = best == NONE || Integer.bitCount(set) < Integer.bitCount(best);
            if (fewer && stringsSharing(s, set) == 1 << s) best = set;
        }
        return best;
    }

    // ---- acts ----

    public int adds() {
        if (book.size >= STRINGS) return FULL;
        spare.copyFrom(book);
        boolean read = reader.readAdded(tape, spare);
        tape.size = 0;
        if (!read) return FAULTY;
        history.keep(book);
        book.copyFrom(spare);
        renew();
        return book.size - 1;
    }

    public int drops(int s) {
        if (!isString(s)) return WRONG;
        history.keep(book);
        book.dropString(s);
        renew();
        return book.size;
    }

    public int law(int role, int way) {
        if (!isRole(role) || !isWay(way)) return WRONG;
        int old = book.ways[role];
        if (old == way) return old;
        history.keep(book);
        book.ways[role] = way;
        renew();
        return old;
    }

    public int lead(int s, int i, int leads) {
        if (!isTerm(s, i) || leads < 0 || leads > 1) return WRONG;
        int old = book.leads[s * TERMS + i];
        if (old == leads) return old;
        history.keep(book);
        book.leads[s * TERMS + i] = leads;
        renew();
        return old;
    }

    public int swaps(int s, int i, int j) {
        if (!isTerm(s, i) || !isTerm(s, j) || i == j) return WRONG;
        int t = s * TERMS + i;
        int u = s * TERMS + j;
        // ROLES don't fall along a STRING, so only TERMS of one ROLE can change places.
        if (book.roles[t] != book.roles[u]) return BARRED;
        history.keep(book);
        book.exchange(t, u);
        renew();
        return 1;
    }

    public int see(int word, int other) {
        if (!isWord(word) || !isWord(other)) return WRONG;
        if (book.sees >= SEES) return FULL;
        if (word == other) return BARRED;
        history.keep(book);
        // WORDS are USED ones, from which no see leads: so none of it is told yet, and no ring closes.
        book.addSee(words.names[word], words.names[other]);
        renew();
        return book.sees;
    }

    public int forget(int k) {
        if (k < 0) return WRONG;
        if (k >= book.sees) return NONE;
        history.keep(book);
        book.dropSee(k);
        renew();
        return book.sees;
    }

    public int moves(int s, int address) {
        if (!isString(s) || !isAddress(address)) return WRONG;
        int old = book.addresses[s];
        if (old == address) return old;
        if (book.stringAt(address) != NONE) return BARRED;
        history.keep(book);
        book.addresses[s] = address;
        renew();
        return old;
    }

    public int undo() {
        if (history.size == 0) return NONE;
        history.takeBack(book);
        renew();
        return history.size;
    }

    /** Everything that follows from the book, anew. */
    private void renew() {
        words.gatherFrom(book);
        terms.takeFrom(book, words);
        turning.turnAll(book, terms);
    }

    // ---- is there such a one ----

    private boolean isString(int s) {
        return s >= 0 && s < book.size;
    }

    private boolean isTerm(int s, int i) {
        return isString(s) && i >= 0 && i < book.sizes[s];
    }

    private boolean isWord(int word) {
        return word >= 0 && word < words.size;
    }

    private boolean isLine(int l) {
        return l >= 0 && l < turning.lines;
    }

    private boolean isHead(int h) {
        return h >= 0 && h < turning.heads;
    }

    private static boolean isRole(int role) {
        return role >= 0 && role < ROLES;
    }

    private static boolean isWay(int way) {
        return way >= 0 && way < WAYS;
    }

    private static boolean isAddress(int address) {
        return address >= 0 && address < ADDRESSES;
    }

    private static boolean hasBit(int bits, int i) {
        return (bits >> i & 1) == 1;
    }

    // ---- names ----

    private static boolean isLetter(int octet) {
        return octet >= 'a' && octet <= 'z';
    }

    /** One letter more; while a name grows, its last letter stands lowest. */
    private static long grown(long letters, int octet) {
        return letters << LETTER_BITS | (octet - 'a' + 1);
    }

    /** A grown name with its first letter highest. */
    private static long aligned(long letters) {
        long name = letters;
        for (int i = 1; i < LETTERS; i++) {
            if (name < SEVEN_LETTERS) name <<= LETTER_BITS;
        }
        return name;
    }

    private static int letterOf(long name, int i) {
        return (int) (name >> LETTER_BITS * (LETTERS - 1 - i)) & LETTER_MASK;
    }

    private static int lettersOf(long name) {
        int letters = 0;
        for (int i = 0; i < LETTERS; i++) {
            if (letterOf(name, i) != 0) letters++;
        }
        return letters;
    }

    private static boolean beginsWith(long name, long beginning, int letters) {
        int behind = LETTER_BITS * (LETTERS - letters);
        return name >> behind == beginning >> behind;
    }

    /** Bytes in a row that has a longest length: the TAPE, OUT, one LINE that is PRINTED. */
    private static final class Bytes {
        final byte[] bytes;
        int size;

        Bytes(int length) {
            bytes = new byte[Math.max(length, 0)];
        }

        void put(int octet) {
            if (size < bytes.length) bytes[size++] = (byte) octet;
        }

        void putFour(int four) {
            for (int shift = 24; shift >= 0; shift -= 8) put(four >> shift);
        }

        void putAll(Bytes others) {
            for (int i = 0; i < others.size; i++) put(others.bytes[i]);
        }

        void putName(long name) {
            for (int i = 0; i < LETTERS; i++) {
                int letter = letterOf(name, i);
                if (letter != 0) put('a' - 1 + letter);
            }
        }

        void putAddress(int address) {
            if (address >= 100) put('0' + address / 100);
            if (address >= 10) put('0' + address / 10 % 10);
            put('0' + address % 10);
        }

        /** All of them as one name (NO_NAME of none); NOT_LETTERS if they are not 0 to 7 letters. */
        long asName() {
            if (size > LETTERS) return NOT_LETTERS;
            long letters = 0;
            for (int i = 0; i < size; i++) {
                if (!isLetter(bytes[i])) return NOT_LETTERS;
                letters = grown(letters, bytes[i]);
            }
            return aligned(letters);
        }
    }

    /** All that is told and can be changed. TERM i of STRING s stands at s * TERMS + i, its names as they were told. */
    private static final class Book {
        int size;
        final int[] addresses = new int[STRINGS];
        final int[] sizes = new int[STRINGS];
        final int[] roles = new int[ALL_TERMS];
        final int[] leads = new int[ALL_TERMS];
        final long[] names = new long[ALL_TERMS];
        final long[] vias = new long[ALL_TERMS];
        final long[] backs = new long[ALL_TERMS];
        final int[] ways = new int[ROLES];
        int sees;
        final long[] seeFrom = new long[SEES];
        final long[] seeTo = new long[SEES];

        void clear() {
            size = 0;
            sees = 0;
            for (int role = 0; role < ROLES; role++) ways[role] = PLAIN;
        }

        void copyFrom(Book other) {
            size = other.size;
            copyStrings(other, 0, 0, size);
            System.arraycopy(other.ways, 0, ways, 0, ROLES);
            sees = other.sees;
            System.arraycopy(other.seeFrom, 0, seeFrom, 0, sees);
            System.arraycopy(other.seeTo, 0, seeTo, 0, sees);
        }

        private void copyStrings(Book other, int from, int to, int strings) {
            System.arraycopy(other.addresses, from, addresses, to, strings);
            System.arraycopy(other.sizes, from, sizes, to, strings);
            int t = from * TERMS;
            int u = to * TERMS;
            int count = strings * TERMS;
            System.arraycopy(other.roles, t, roles, u, count);
            System.arraycopy(other.leads, t, leads, u, count);
            System.arraycopy(other.names, t, names, u, count);
            System.arraycopy(other.vias, t, vias, u, count);
            System.arraycopy(other.backs, t, backs, u, count);
        }

        void dropString(int s) {
            copyStrings(this, s + 1, s, size - s - 1);
            size--;
        }

        int termsOfAll() {
            int seen = 0;
            for (int s = 0; s < size; s++) seen += sizes[s];
            return seen;
        }

        int leadingOf(int s) {
            int seen = 0;
            for (int i = 0; i < sizes[s]; i++) seen += leads[s * TERMS + i];
            return seen;
        }

        int stringAt(int address) {
            for (int s = 0; s < size; s++) {
                if (addresses[s] == address) return s;
            }
            return NONE;
        }

        /** Two TERMS of one ROLE, which stays where it is therefore. */
        void exchange(int t, int u) {
            int held = leads[t];
            leads[t] = leads[u];
            leads[u] = held;
            exchangeIn(names, t, u);
            exchangeIn(vias, t, u);
            exchangeIn(backs, t, u);
        }

        private static void exchangeIn(long[] row, int t, int u) {
            long held = row[t];
            row[t] = row[u];
            row[u] = held;
        }

        int seeOf(long name) {
            for (int k = 0; k < sees; k++) {
                if (seeFrom[k] == name) return k;
            }
            return NONE;
        }

        /** Where sees lead from a name: they make no ring, so a way goes over each see once at most. */
        long used(long name) {
            long reached = name;
            for (int step = 0; step < SEES; step++) {
                int k = seeOf(reached);
                if (k == NONE) return reached;
                reached = seeTo[k];
            }
            return reached;
        }

        void addSee(long from, long to) {
            if (sees >= SEES) return;
            seeFrom[sees] = from;
            seeTo[sees] = to;
            sees++;
        }

        void dropSee(int k) {
            for (int j = k + 1; j < sees; j++) {
                seeFrom[j - 1] = seeFrom[j];
                seeTo[j - 1] = seeTo[j];
            }
            sees--;
        }
    }

    /** What the book was ahead of each of the latest acts: a ring, in which a new act takes the oldest one's place. */
    private static final class History {
        private final Book[] kept = new Book[ACTS];
        private int first;
        int size;

        History() {
            for (int i = 0; i < ACTS; i++) kept[i] = new Book();
        }

        void forgetAll() {
            size = 0;
        }

        void keep(Book book) {
            kept[(first + size) % ACTS].copyFrom(book);
            if (size < ACTS) size++;
            else first = (first + 1) % ACTS;
        }

        void takeBack(Book book) {
            if (size == 0) return;
            size--;
            book.copyFrom(kept[(first + size) % ACTS]);
        }
    }

    /** Reads a TAPE into a book, up to the first FAULT. Every FAULT lies at the TOKEN that is looked at. */
    private static final class Reader {
        private static final String KEYS =
            "law see string place thing part act agent form plain whole near not via back ";
        private static final int KEY_COUNT = 15;
        private static final int LAW = 0;
        private static final int SEE = 1;
        private static final int STRING = 2;
        private static final int FIRST_ROLE = 3;
        private static final int FIRST_WAY = 9;
        private static final int NOT = 12;
        private static final int VIA = 13;
        private static final int BACK = 14;

        private static final int END = 0;
        private static final int KEY = 1;
        private static final int NAME = 2;
        private static final int TOO_LONG = 3;
        private static final int NUMBER = 4;
        private static final int SIGN = 5;
        private static final int BLANK = 6;

        private final long[] keyNames = new long[KEY_COUNT];
        private final int[] kinds = new int[TAPE_BYTES + 1];
        private final int[] starts = new int[TAPE_BYTES + 1];
        /** Which key, which name, which number, which sign. */
        private final long[] values = new long[TAPE_BYTES + 1];
        private int tokens;
        private int next;
        private int lawsTold;
        private long join;
        int lines;
        int fault;
        int place = NONE;

        Reader() {
            int key = 0;
            long letters = 0;
            for (int i = 0; i < KEYS.length() && key < KEY_COUNT; i++) {
                if (isLetter(KEYS.charAt(i))) {
                    letters = grown(letters, KEYS.charAt(i));
                } else {
                    keyNames[key++] = aligned(letters);
                    letters = 0;
                }
            }
        }

        boolean readText(Bytes tape, Book book) {
            begin(tape);
            book.clear();
            for (lines = 0; lines < tokens && kinds[next] != END; lines++) {
                if (!readLine(book)) return false;
            }
            return true;
        }

        boolean readAdded(Bytes tape, Book book) {
            begin(tape);
            if (!readHeading(book) || !takeSign(';')) return false;
            return kinds[next] == END || fail(1);
        }

        private void begin(Bytes tape) {
            fault = 0;
            place = NONE;
            lawsTold = 0;
            next = 0;
            scan(tape);
            for (int t = 0; t < tokens; t++) {
                if (kinds[t] == NAME) settle(t);
            }
        }

        private void scan(Bytes tape) {
            tokens = 0;
            int before = BLANK;
            for (int i = 0; i < tape.size; i++) {
                int octet = tape.bytes[i];
                int kind = kindOf(octet);
                boolean goesOn = kind == before && kind != SIGN;
                if (kind != BLANK && !goesOn) open(kind, i);
                if (kind != BLANK) extend(kind, octet, tokens - 1);
                before = kind;
            }
            open(END, tape.size);
        }

        private static int kindOf(int octet) {
            if (octet == ' ' || octet == LF) return BLANK;
            if (isLetter(octet)) return NAME;
            return octet >= '0' && octet <= '9' ? NUMBER : SIGN;
        }

        private void open(int kind, int start) {
            if (tokens > TAPE_BYTES) return;
            kinds[tokens] = kind;
            starts[tokens] = start;
            values[tokens] = 0;
            tokens++;
        }

        private void extend(int kind, int octet, int t) {
            if (t < 0) return;
            if (kind == SIGN) values[t] = octet;
            // What is too large already grows no more, lest it wrap around.
            else if (kind == NUMBER) values[t] = Math.min(values[t] * 10 + octet - '0', ADDRESSES);
            else if (values[t] >= SEVEN_LETTERS) kinds[t] = TOO_LONG;
            else values[t] = grown(values[t], octet);
        }

        private void settle(int t) {
            values[t] = aligned(values[t]);
            for (int key = 0; key < KEY_COUNT; key++) {
                if (keyNames[key] != values[t]) continue;
                kinds[t] = KEY;
                values[t] = key;
                return;
            }
        }

        private boolean fail(int number) {
            fault = number;
            place = starts[next];
            return false;
        }

        private void step() {
            if (next + 1 < tokens) next++;
        }

        private boolean isKey(int key) {
            return kinds[next] == KEY && values[next] == key;
        }

        /** Which one of some keys that follow one another is here; NONE if none is. */
        private int choice(int firstKey, int keys) {
            if (kinds[next] != KEY) return NONE;
            int chosen = (int) values[next] - firstKey;
            return chosen >= 0 && chosen < keys ? chosen : NONE;
        }

        private boolean isSign(int sign) {
            return kinds[next] == SIGN && values[next] == sign;
        }

        private boolean takeSign(int sign) {
            if (!isSign(sign)) return fail(1);
            step();
            return true;
        }

        private boolean readLine(Book book) {
            boolean read;
            if (isKey(LAW)) read = readLaw(book);
            else if (isKey(SEE)) read = readSee(book);
            else if (!isKey(STRING)) read = fail(1);
            else if (book.size >= STRINGS) read = fail(4);
            else {
                step();
                read = readHeading(book);
            }
            return read && takeSign(';');
        }

        private boolean readLaw(Book book) {
            step();
            int role = choice(FIRST_ROLE, ROLES);
            if (role == NONE) return fail(1);
            if (hasBit(lawsTold, role)) return fail(3);
            lawsTold |= 1 << role;
            step();
            int way = choice(FIRST_WAY, WAYS);
            if (way == NONE) return fail(1);
            book.ways[role] = way;
            step();
            return true;
        }

        private boolean readSee(Book book) {
            if (book.sees >= SEES) return fail(4);
            step();
            if (kinds[next] != NAME) return fail(1);
            long from = values[next];
            if (book.seeOf(from) != NONE) return fail(3);
            step();
            if (kinds[next] != NAME) return fail(1);
            long to = values[next];
            // No see leads on from the first one yet, so a way that comes to it ends there.
            if (book.used(to) == from) return fail(3);
            book.addSee(from, to);
            step();
            return true;
        }

        private boolean readHeading(Book book) {
            int s = book.size;
            if (s >= STRINGS) return fail(4);
            if (kinds[next] != NUMBER) return fail(1);
            int address = (int) values[next];
            if (!isAddress(address)) return fail(2);
            if (book.stringAt(address) != NONE) return fail(3);
            step();
            if (!takeSign(':')) return false;
            for (int i = 0; i <= TERMS; i++) {
                if (!readTerm(book, s, i)) return false;
                if (!isSign(',')) {
                    book.addresses[s] = address;
                    book.sizes[s] = i + 1;
                    book.size++;
                    return true;
                }
                step();
            }
            return false;
        }

        private boolean readTerm(Book book, int s, int i) {
            boolean leads = !isKey(NOT);
            if (leads && choice(FIRST_ROLE, ROLES) == NONE) return fail(1);
            if (i >= TERMS) return fail(4);
            if (!leads) step();
            int role = choice(FIRST_ROLE, ROLES);
            if (role == NONE) return fail(1);
            int t = s * TERMS + i;
            if (i > 0 && role < book.roles[t - 1]) return fail(5);
            step();
            if (kinds[next] != NAME) return fail(1);
            book.roles[t] = role;
            book.leads[t] = leads ? 1 : 0;
            book.names[t] = values[next];
            step();
            if (!readJoin(VIA)) return false;
            book.vias[t] = join;
            if (!readJoin(BACK)) return false;
            book.backs[t] = join;
            return true;
        }

        private boolean readJoin(int key) {
            join = NO_NAME;
            if (!isKey(key)) return true;
            step();
            if (kinds[next] != NAME) return fail(1);
            join = values[next];
            step();
            return true;
        }
    }

    /** The WORDS in order, and in which STRINGS each one is. */
    private static final class Words {
        int size;
        final long[] names = new long[ALL_TERMS];
        /** As bits. */
        final int[] strings = new int[ALL_TERMS];

        void gatherFrom(Book book) {
            size = 0;
            for (int s = 0; s < book.size; s++) {
                for (int i = 0; i < book.sizes[s]; i++) sortIn(book.used(book.names[s * TERMS + i]), s);
            }
        }

        private void sortIn(long name, int s) {
            int known = numberOf(name);
            if (known != NONE) {
                strings[known] |= 1 << s;
                return;
            }
            if (size >= ALL_TERMS) return;
            int spot = size;
            while (spot > 0 && names[spot - 1] > name) {
                names[spot] = names[spot - 1];
                strings[spot] = strings[spot - 1];
                spot--;
            }
            names[spot] = name;
            strings[spot] = 1 << s;
            size++;
        }

        int numberOf(long name) {
            for (int word = 0; word < size; word++) {
                if (names[word] == name) return word;
            }
            return NONE;
        }

        int stringCount(int word) {
            return Integer.bitCount(strings[word]);
        }

        /** How many WORDS stand ahead of one by how many STRINGS they are in. */
        int rankOf(int word) {
            int rank = 0;
            int own = stringCount(word);
            for (int other = 0; other < size; other++) {
                int others = stringCount(other);
                if (others > own || others == own && other < word) rank++;
            }
            return rank;
        }

        boolean areAllIn(int set) {
            for (int word = 0; word < size; word++) {
                if ((strings[word] & set) == 0) return false;
            }
            return true;
        }

        /** Some STRINGS, and all that have a word of theirs. */
        private int spread(int some) {
            int reached = some;
            for (int word = 0; word < size; word++) {
                if ((strings[word] & some) != 0) reached |= strings[word];
            }
            return reached;
        }

        /** A step more brings a STRING more, or none ever: so as many steps as STRINGS are enough. */
        int stepsBetween(int word, int other) {
            int reached = strings[word];
            for (int steps = 1; steps <= STRINGS; steps++) {
                if ((reached & strings[other]) != 0) return steps;
                reached = spread(reached);
            }
            return NONE;
        }

        /** All STRINGS to which steps lead from a WORD. */
        int groupOf(int word) {
            int reached = strings[word];
            for (int step = 0; step < STRINGS; step++) reached = spread(reached);
            return reached;
        }
    }

    /** The TERMS of all STRINGS with their ROLES, WORDS and USED joins, where the book has them. */
    private static final class Terms {
        int strings;
        final int[] sizes = new int[STRINGS];
        final int[] roles = new int[ALL_TERMS];
        final int[] words = new int[ALL_TERMS];
        final long[] vias = new long[ALL_TERMS];
        final long[] backs = new long[ALL_TERMS];

        void takeFrom(Book book, Words all) {
            strings = book.size;
            for (int s = 0; s < strings; s++) {
                sizes[s] = book.sizes[s];
                for (int t = s * TERMS; t < s * TERMS + sizes[s]; t++) {
                    roles[t] = book.roles[t];
                    // Every USED word is a WORD, so there is a number.
                    words[t] = Math.max(all.numberOf(book.used(book.names[t])), 0);
                    vias[t] = book.used(book.vias[t]);
                    backs[t] = book.used(book.backs[t]);
                }
            }
        }

        /** How many words two or more TERMS of a STRING have, each counted where it stands again first. */
        int repeatedIn(int s) {
            int seen = 0;
            for (int i = 1; i < sizes[s]; i++) {
                int ahead = 0;
                for (int j = 0; j < i; j++) {
                    if (words[s * TERMS + j] == words[s * TERMS + i]) ahead++;
                }
                if (ahead == 1) seen++;
            }
            return seen;
        }

        int stringsWith(int role, int word) {
            int found = 0;
            for (int s = 0; s < strings; s++) {
                if (hasTwo(s, sizes[s], role, word)) found |= 1 << s;
            }
            return found;
        }

        /** Whether one of the first TERMS of a STRING has that ROLE and that WORD. */
        private boolean hasTwo(int s, int first, int role, int word) {
            for (int t = s * TERMS; t < s * TERMS + first; t++) {
                if (roles[t] == role && words[t] == word) return true;
            }
            return false;
        }

        private boolean isAgain(int s, int i) {
            return hasTwo(s, i, roles[s * TERMS + i], words[s * TERMS + i]);
        }

        int senseSize(int s) {
            int seen = 0;
            for (int i = 0; i < sizes[s]; i++) {
                if (!isAgain(s, i)) seen++;
            }
            return seen;
        }

        int inBoth(int s, int other) {
            int seen = 0;
            for (int i = 0; i < sizes[s]; i++) {
                boolean inOther = hasTwo(other, sizes[other], roles[s * TERMS + i], words[s * TERMS + i]);
                if (inOther && !isAgain(s, i)) seen++;
            }
            return seen;
        }

        boolean areOfOneSense(int s, int other) {
            int both = inBoth(s, other);
            return both == senseSize(s) && both == senseSize(other);
        }

        boolean isFirstOfSense(int s) {
            for (int other = 0; other < s; other++) {
                if (areOfOneSense(s, other)) return false;
            }
            return true;
        }

        boolean areSame(int s, int other) {
            if (sizes[s] != sizes[other]) return false;
            for (int i = 0; i < sizes[s]; i++) {
                int t = s * TERMS + i;
                int u = other * TERMS + i;
                if (roles[t] != roles[u] || words[t] != words[u]) return false;
            }
            return true;
        }

        /** Whether one WORD stands right ahead of another in some STRING. */
        boolean follow(int word, int other) {
            for (int s = 0; s < strings; s++) {
                for (int t = s * TERMS + 1; t < s * TERMS + sizes[s]; t++) {
                    if (words[t - 1] == word && words[t] == other) return true;
                }
            }
            return false;
        }
    }

    /** One ENTRY; ABOVE and BELOW stand in one row, BELOW behind. */
    private static final class Entry {
        int string;
        int address;
        int place;
        int lead;
        final int[] places = new int[TERMS];
        final int[] words = new int[TERMS];
        int above;
        int size;
        /** DOUBLES that went, as bits. */
        int gone;
        int line;
        int head;

        void turn(int way, Terms terms) {
            int first = string * TERMS;
            lead = terms.words[first + place];
            above = 0;
            size = 0;
            gone = 0;
            if (way != WHOLE) {
                for (int i = place - 1; i >= 0; i--) offer(i, terms.words[first + i], 0);
            }
            if (way != NEAR) above = size;
            int from = way == WHOLE ? 0 : place + 1;
            for (int i = from; i < terms.sizes[string]; i++) {
                if (i != place) offer(i, terms.words[first + i], above);
            }
            if (way == NEAR) above = size;
        }

        /** One TERM more for the row that begins at rowFirst, unless it is a DOUBLE there. */
        private void offer(int i, int word, int rowFirst) {
            int ahead = size == rowFirst ? lead : words[size - 1];
            if (word == ahead) {
                gone |= 1 << i;
            } else if (size < TERMS) {
                places[size] = i;
                words[size] = word;
                size++;
            }
        }

        int compareWords(Entry other) {
            if (lead != other.lead) return lead - other.lead;
            int order = compareRows(other, 0, above, other.above);
            // Rows ABOVE that are the same have one length, so both BELOW begin at one place.
            return order != 0 ? order : compareRows(other, above, size, other.size);
        }

        private int compareRows(Entry other, int first, int behind, int otherBehind) {
            for (int i = first; i < behind && i < otherBehind; i++) {
                if (words[i] != other.words[i]) return words[i] - other.words[i];
            }
            return behind - otherBehind;
        }

        int compare(Entry other) {
            int order = compareWords(other);
            if (order == 0) order = address - other.address;
            return order != 0 ? order : place - other.place;
        }

        boolean shows(int word, int what) {
            if (what == 0) return lead == word;
            int first = what == 1 ? 0 : above;
            int behind = what == 1 ? above : size;
            for (int i = first; i < behind; i++) {
                if (words[i] == word) return true;
            }
            return false;
        }
    }

    /** The ENTRIES in ORDER, and the LINES and HEADS into which they fall. */
    private static final class Turning {
        final Entry[] entries = new Entry[ALL_TERMS];
        int size;
        /** The first ENTRY of each LINE; behind the last LINE how many ENTRIES there are. */
        final int[] lineFirst = new int[ALL_TERMS + 1];
        int lines;
        /** Of each HEAD likewise. */
        final int[] headFirst = new int[ALL_TERMS + 1];
        int heads;

        Turning() {
            for (int k = 0; k < ALL_TERMS; k++) entries[k] = new Entry();
        }

        void turnAll(Book book, Terms terms) {
            size = 0;
            for (int s = 0; s < book.size; s++) {
                for (int i = 0; i < book.sizes[s]; i++) {
                    if (book.leads[s * TERMS + i] == 1) addEntry(book, terms, s, i);
                }
            }
            numberLinesAndHeads();
        }

        private void addEntry(Book book, Terms terms, int s, int i) {
            if (size >= ALL_TERMS) return;
            Entry added = entries[size];
            added.string = s;
            added.address = book.addresses[s];
            added.place = i;
            added.turn(book.ways[book.roles[s * TERMS + i]], terms);
            int spot = size;
            while (spot > 0 && entries[spot - 1].compare(added) > 0) {
                entries[spot] = entries[spot - 1];
                spot--;
            }
            entries[spot] = added;
            size++;
        }

        private void numberLinesAndHeads() {
            lines = 0;
            heads = 0;
            for (int k = 0; k < size; k++) {
                Entry entry = entries[k];
                if (k == 0 || entry.compareWords(entries[k - 1]) != 0) lineFirst[lines++] = k;
                if (k == 0 || entry.lead != entries[k - 1].lead) headFirst[heads++] = k;
                entry.line = lines - 1;
                entry.head = heads - 1;
            }
            lineFirst[lines] = size;
            headFirst[heads] = size;
        }

        int stringsOfLine(int l) {
            return stringsAmong(lineFirst[l], lineFirst[l + 1]);
        }

        int stringsOfHead(int h) {
            return stringsAmong(headFirst[h], headFirst[h + 1]);
        }

        private int stringsAmong(int first, int behind) {
            int strings = 0;
            for (int k = first; k < behind; k++) strings |= 1 << entries[k].string;
            return strings;
        }

        int doublesOf(int s) {
            int seen = 0;
            for (int k = 0; k < size; k++) {
                if (entries[k].string == s) seen += Integer.bitCount(entries[k].gone);
            }
            return seen;
        }

        int doublesOfAll() {
            int seen = 0;
            for (int k = 0; k < size; k++) seen += Integer.bitCount(entries[k].gone);
            return seen;
        }

        void printLine(int l, Words words, Terms terms, Bytes into) {
            Entry entry = entries[lineFirst[l]];
            into.putName(words.names[entry.lead]);
            for (int i = 0; i < entry.size; i++) {
                int t = entry.string * TERMS + entry.places[i];
                long name = words.names[entry.words[i]];
                if (i < entry.above) {
                    putJoined(into, ',', name, terms.backs[t]);
                } else {
                    putJoined(into, i == entry.above ? ':' : '.', terms.vias[t], name);
                }
            }
            printAddresses(l, into);
        }

        /** A sign and up to two names (either may be none), a blank ahead of each. */
        private static void putJoined(Bytes into, int sign, long name, long behind) {
            into.put(sign);
            if (name != NO_NAME) {
                into.put(' ');
                into.putName(name);
            }
            if (behind != NO_NAME) {
                into.put(' ');
                into.putName(behind);
            }
        }

        private void printAddresses(int l, Bytes into) {
            int latest = NONE;
            for (int k = lineFirst[l]; k < lineFirst[l + 1]; k++) {
                int address = entries[k].address;
                if (address == latest) continue;
                into.put(latest == NONE ? ' ' : ',');
                into.putAddress(address);
                latest = address;
            }
        }
    }
}
