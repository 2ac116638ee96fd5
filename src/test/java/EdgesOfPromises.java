/** The boundary cases that the promises name, with answers worked out by hand. */
final class EdgesOfPromises {
    private static final int NONE = Edge.NONE;
    private static final int MIN = Edge.MIN;
    private static final int MAX = Edge.MAX;

    /** WORDS a, b, c, each of them a HEAD. */
    private static final String PAIR = "string 5:act a,act b;string 7:act b,form c;";
    private static final String[] PAIR_LINES = {"a: b 5", "b: c 7", "b, a 5", "c, b 7"};
    /** WORDS a, b, c. One LINE of a (5, 7 twice, 9), one of b (5, 7, 9), one of c (3). */
    private static final String MERGED = "string 9:act a,act b via in;string 5:act a,act b;string 7:act a,act a,act b;string 3:act c;";
    /** WORDS a, b, c, d, e. */
    private static final String MIXED = "string 1:place a,thing b,part c;string 2:thing b,part c,part a;"
        + "string 3:place a,thing b,part c,form c;string 4:part d,act b;string 5:form e;";
    private static final String NO_LINES = "string 1:not act a,not act b;";

    private static Edge promise(int number, String quote) {
        return Edge.promise(number, quote);
    }

    static void all() {
        newObject();
        feed();
        end();
        text();
        fault();
        count();
        string();
        term();
        letter();
        way();
        find();
        at();
        entry();
        row();
        line();
        address();
        head();
        print();
        printAll();
        octet();
        rebuilt();
        begins();
        having();
        sharing();
        alike();
        common();
        nearest();
        senses();
        beside();
        often();
        most();
        apart();
        cover();
        would();
        adds();
        drops();
        law();
        lead();
        swaps();
        see();
        forget();
        moves();
        undo();
        gather();
        lost();
        chain();
        groups();
        longest();
        shown();
        twins();
        rarest();
        crossed();
        shared();
        questionsChangeNothing();
    }

    /** 12 STRINGS of 6 TERMS with a word of its own each: 72 WORDS, ENTRIES, LINES, HEADS. */
    private static String full() {
        StringBuilder text = new StringBuilder();
        for (int s = 0; s < 12; s++) {
            text.append("string ").append(100 + s).append(":");
            for (int i = 0; i < 6; i++) {
                text.append(i == 0 ? "act " : ",act ").append((char) ('a' + s)).append((char) ('a' + i));
            }
            text.append(";");
        }
        return text.toString();
    }

    /** 12 STRINGS of the one word a. */
    private static String twelveAlike() {
        return EdgesOfTerms.strings(0, 12).replaceAll("act .", "act a");
    }

    // ---- the TAPE and the TEXT ----

    private static void newObject() {
        promise(1, "No STRINGS.").is(0, "count", 0).is(-2, "string", 0, 0).is(-2, "string", MIN, 0).is(-2, "string", MAX, 0)
            .is(NONE, "at", 0).is(-2, "drops", 0).is(NONE, "undo");
    }

    private static final int BLANKS = 0x20202020;

    private static void feed() {
        String quote = "Twenty bytes come behind the TAPE, four of each number, the highest first: how many it has";
        // "string 1:act abcdefg" and ";"
        Edge edge = promise(2, quote).is(20, "feed", 0x73747269, 0x6e672031, 0x3a616374, 0x20616263, 0x64656667)
            .is(40, "feed", 0x3b202020, BLANKS, 0x0a202020, BLANKS, 0x2020200a).is(40, "count", 8).is(1, "text");
        for (int i = 0; i < 7; i++) edge.is(i + 1, "letter", 0, i);
        edge.is(20, "feed", 0x61620000, 0, 0, 0, 0).is(2, "end", 2).is(22, "feed", 0x63646566, 0x67000000, 0, 0, 0).is(7, "end", 7).is(0, "find");
        promise(2, quote).is(20, "feed", MIN, MIN, MIN, MIN, MIN).is(40, "feed", MAX, MAX, MAX, MAX, MAX).is(60, "feed", -1, -1, -1, -1, -1)
            .is(60, "count", 8).is(-4, "text").is(1, "fault", 0).is(0, "fault", 1);
        // 19 blanks and one byte that is no TOKEN, whose place the FAULT tells.
        for (int place = 0; place < 20; place++) {
            int[] five = {BLANKS, BLANKS, BLANKS, BLANKS, BLANKS};
            five[place / 4] ^= 0xa0 << 24 - place % 4 * 8;
            promise(2, quote).is(20, "feed", five).is(-4, "text").is(place, "fault", 1);
        }
        quote = "NONE, and none come, if it would have more than 1200.";
        String head = "string 1:act a";
        promise(2, quote).say(head + " ".repeat(1165) + ";").is(1200, "feed", BLANKS, BLANKS, BLANKS, BLANKS, BLANKS)
            .stays(NONE, "feed", 0, 0, 0, 0, 0).stays(NONE, "feed", MIN, MAX, -1, 1, 0).is(1, "text");
        promise(2, quote).say(head + " ".repeat(1165) + "; ").is(1181, "count", 8).stays(NONE, "feed", 0, 0, 0, 0, 0).is(1180, "end", 1180)
            .is(1200, "feed", BLANKS, BLANKS, BLANKS, BLANKS, 0x0a0a0a0a).is(1, "text");
        promise(2, quote).say(head + " ".repeat(1184) + ";").is(1199, "count", 8).stays(NONE, "feed", 0, 0, 0, 0, 0).is(1, "text");
        promise(2, quote).say(head + " ".repeat(1185) + ";").is(1200, "count", 8).is(1, "text").is(20, "feed", 0, 0, 0, 0, 0);
    }

    private static void end() {
        String quote = "The TAPE has its first n bytes alone: n";
        Edge edge = promise(3, quote).text("string 1:act ab,act abc,act ac;");
        edge.say("abc").is(2, "end", 2).is(2, "count", 8).is(0, "find");
        edge.say("abc").is(3, "end", 3).is(1, "find");
        edge.say("abc").is(0, "end", 0).is(0, "count", 8).is(-2, "find");
        edge.say("ab").is(1, "end", 1).say("c").is(2, "count", 8).is(2, "find");
        promise(3, quote).say(" ".repeat(1200)).is(1200, "end", 1200).is(1199, "end", 1199).is(0, "end", 0).is(0, "end", 0);
        quote = "NONE, and nothing happens, if it has not so many, or n is below 0.";
        promise(3, quote).is(0, "end", 0).stays(NONE, "end", 1).stays(NONE, "end", -1).bounds(0, 0, 0, NONE, NONE, "end", 0);
        promise(3, quote).text(PAIR).say("abc").bounds(0, 0, 3, NONE, NONE, "end", 0).stays(NONE, "end", 4).is(2, "end", 2).stays(NONE, "end", 3)
            .bounds(0, 0, 2, NONE, NONE, "end", 0);
        promise(3, quote).say(" ".repeat(1200)).bounds(0, 0, 1200, NONE, NONE, "end", 0);
    }

    private static void text() {
        String quote = "The TAPE (empty then) is the TEXT (in place of another; nothing can be undone; OUT stays): how many LINES of it.";
        Edge edge = promise(4, quote).text("law act near;see z a;" + PAIR).is(0, "law", 5, 1).is(5, "moves", 0, 6).prints(0, "a, b 6");
        edge.say("string 1:act z;").is(1, "text").is(0, "count", 8).is(1, "count", 0).is(0, "count", 2).each("way", 0, 0, 0, 0, 0, 0, 0)
            .is(0, "count", 7).stays(NONE, "undo").find(0, "z").find(NONE, "a").out("a, b 6").is(0, "law", 0, 1);
        // An empty TAPE is a TEXT, too.
        edge.is(0, "text").is(0, "count", 0).is(0, "count", 3).is(0, "way", 0).is(NONE, "undo").out("a, b 6").sameAs(promise(4, quote), "out");
        StringBuilder most = new StringBuilder(EdgesOfTerms.strings(0, 12) + EdgesOfTerms.sees(12));
        for (String role : EdgesOfTerms.ROLES) most.append("law ").append(role).append(" plain;");
        promise(4, quote).fine(30, most.toString());
        quote = "-4: a FAULT (the TAPE is empty, all else stays).";
        String[] faulty = {"law act whole;see b c;string 1:act x;^!", "string ^1000:act x;", "see b c;see c ^b;",
            "law act whole;" + EdgesOfTerms.sees(12) + "^see x y;", EdgesOfTerms.strings(20, 12) + "^string", "string 1:form x,^act x;"};
        int[] numbers = {1, 2, 3, 4, 4, 5};
        for (int i = 0; i < faulty.length; i++) {
            promise(4, quote).text(EdgesOfTerms.ACTED).is(0, "law", 0, 2).is(5, "moves", 0, 6).prints(0, "a 9").faulty(numbers[i], faulty[i])
                .is(2, "count", 7).is(1, "undo").is(5, "string", 0, 0);
        }
        promise(4, quote).faulty(1, "law^").is(0, "text").is(0, "fault", 0);
    }

    private static void fault() {
        String quote = "Of the latest text(), adds() that was not -5, what 0: its FAULT, 0 without, 1: its place (NONE without).";
        Edge edge = promise(5, quote).say("string 1000:").is(-4, "text").is(2, "fault", 0).is(7, "fault", 1);
        edge.say("1:act a,place").is(-4, "adds").is(5, "fault", 0).is(8, "fault", 1);
        edge.say("string 1:form a").is(-4, "text").is(1, "fault", 0).is(15, "fault", 1);
        edge.adds(0, "1:act a;").is(0, "fault", 0).is(NONE, "fault", 1);
        edge.say("!").is(-4, "adds").is(1, "fault", 0).is(0, "fault", 1);
        // No other call changes it.
        edge.say("a").is(0, "find").is(-2, "find").is(1, "begins", -1).is(0, "undo").is(-2, "drops", 0).is(1, "fault", 0).is(0, "fault", 1);
        edge.is(0, "text").is(0, "fault", 0).is(NONE, "fault", 1);
        edge.say("law").is(-4, "text").is(1, "fault", 0).is(3, "fault", 1).text(EdgesOfTerms.strings(0, 12)).say("law!").is(-5, "adds")
            .is(0, "fault", 0).is(NONE, "fault", 1).is(-4, "text").is(1, "fault", 0).is(3, "fault", 1).say("99:act a;").is(-5, "adds")
            .is(1, "fault", 0).is(3, "fault", 1);
        quote = "NONE for another what, and ahead of any (what 1).";
        promise(5, quote).is(0, "fault", 0).is(NONE, "fault", 1).is(NONE, "fault", 2).is(NONE, "fault", -1).is(NONE, "fault", MIN).is(NONE, "fault", MAX);
        promise(5, quote).text(PAIR).say("string 1000:").is(-4, "text").bounds(0, 0, 1, NONE, NONE, "fault", 0);
    }

    private static void count() {
        String quote = "7 acts that can be undone, 8 bytes of the TAPE, 9 of OUT. NONE for others.";
        promise(6, quote).bounds(0, 0, 9, NONE, NONE, "count", 0);
        promise(6, quote).text(PAIR).bounds(0, 0, 9, NONE, NONE, "count", 0);
        promise(6, quote).text(full()).each("count", 0, 12, 72, 0, 72, 72, 72, 72, 0, 0, 0, NONE);
        Edge edge = promise(6, quote).text(EdgesOfTerms.sees(12) + "string 1:act x;").each("count", 0, 1, 1, 12, 1, 1, 1, 1, 0, 0, 0);
        for (int i = 0; i < 11; i++) edge.is(1 + i, "moves", 0, 2 + i);
        edge.is(10, "count", 7).say(" ".repeat(1200)).is(1200, "count", 8).is(4, "print", 0).is(4, "count", 9);
    }

    // ---- what is held ----

    private static void string() {
        String quote = "Of a STRING, what 0: its ADDRESS, 1: TERMS, 2: those that lead, 3: DOUBLES that go in its ENTRIES, "
            + "4: how many words two or more of its TERMS have. -2.";
        promise(7, quote).is(-2, "string", 0, 0).is(-2, "string", -1, 0).is(-2, "string", MAX, 4).is(-2, "string", MIN, 0);
        promise(7, quote).text(PAIR).bounds(0, 0, 1, -2, -2, "string", 0, 0).bounds(1, 0, 4, -2, -2, "string", 0, 0)
            .bounds(1, 0, 4, -2, -2, "string", 1, 0).is(-2, "string", 2, 5);
        promise(7, quote).text(full()).bounds(0, 0, 11, -2, -2, "string", 0, 0);
        Edge edge = promise(7, quote).text("string 0:not act a,not act a,not act a,not act b,not act b,not act c;"
            + "string 999:act a,act b,act a,act b,act c,act c;string 1:act a;");
        // In each of the six ENTRIES of STRING 1 one c goes.
        int[][] want = {{0, 6, 0, 0, 2}, {999, 6, 6, 6, 3}, {1, 1, 1, 0, 0}};
        for (int s = 0; s < 3; s++) {
            for (int what = 0; what < 5; what++) edge.is(want[s][what], "string", s, what);
        }
    }

    private static void term() {
        String quote = "Of a TERM, what 0: ROLE, 1: 1 if it leads, else 0, 2: its WORD, 3: letters of its via, 4: of its back (0 without). -2.";
        promise(8, quote).is(-2, "term", 0, 0, 0).is(-2, "term", MIN, MIN, MIN).is(-2, "term", MAX, MAX, MAX);
        promise(8, quote).text("string 1:act a via abcdefg back z,act b;string 2:act c,act d,act e,act f,act g,act h;string 3:form a;")
            .is(7, "term", 0, 0, 3).is(1, "term", 0, 0, 4).is(0, "term", 0, 1, 3).is(0, "term", 0, 1, 4)
            .bounds(0, 0, 2, -2, -2, "term", 0, 0, 0).bounds(1, 0, 1, -2, -2, "term", 0, 0, 0).bounds(1, 0, 5, -2, -2, "term", 1, 0, 0)
            .bounds(1, 0, 0, -2, -2, "term", 2, 0, 0).bounds(2, 0, 4, -2, -2, "term", 0, 0, 0).bounds(2, 0, 4, -2, -2, "term", 1, 5, 0);
        promise(8, quote).text(full()).bounds(0, 0, 11, -2, -2, "term", 0, 5, 2).is(71, "term", 11, 5, 2);
    }

    private static void letter() {
        String quote = "Letter i (0 .. 6) of a WORD: 1 .. 26; 0 behind it. -2.";
        promise(9, quote).is(-2, "letter", 0, 0).is(-2, "letter", -1, 0).is(-2, "letter", MIN, 6).is(-2, "letter", MAX, 0);
        promise(9, quote).text("string 1:act abcdefz,act a;").is(1, "letter", 0, 0).is(0, "letter", 0, 1).is(0, "letter", 0, 6).is(26, "letter", 1, 6)
            .is(6, "letter", 1, 5).bounds(0, 0, 1, -2, -2, "letter", 0, 0).bounds(1, 0, 6, -2, -2, "letter", 0, 0).bounds(1, 0, 6, -2, -2, "letter", 1, 0);
        promise(9, quote).text(full()).bounds(0, 0, 71, -2, -2, "letter", 0, 0);
    }

    private static void way() {
        String quote = "The WAY of a ROLE. -2.";
        promise(10, quote).bounds(0, 0, 5, -2, -2, "way", 0);
        promise(10, quote).text("law place whole;law form near;" + PAIR).bounds(0, 0, 5, -2, -2, "way", 0).is(1, "way", 0).is(2, "way", 5);
    }

    private static void find() {
        String quote = "The TAPE (empty then) is a word (letters a .. z alone, 1 to 7): which WORD the USED one of it is.";
        String text = "see y abcdefg;see x y;see q r;string 1:act a,act abcdefg,act z via v;";
        promise(11, quote).text(text).find(0, "a").find(1, "abcdefg").find(2, "z").find(1, "y").find(1, "x");
        for (int octet = 0; octet < 256; octet++) {
            boolean known = octet >= 'a' && octet <= 'z';
            promise(11, quote).find(known ? NONE : -2, String.valueOf((char) octet)).find(known ? NONE : -2, "a" + (char) octet)
                .find(known ? NONE : -2, "abcdef" + (char) octet);
        }
        quote = "NONE: none; -2: it is no such word.";
        promise(11, quote).text(text).find(NONE, "v").find(NONE, "b").find(NONE, "zzzzzzz").find(NONE, "abcdef").find(NONE, "q").find(NONE, "r")
            .find(-2, "").find(-2, "abcdefgh").find(-2, "abcdefga").find(-2, " a").find(-2, "a ").find(-2, "a\n").find(-2, "A").find(-2, "a1").find(-2, "1")
            .find(NONE, "law");
        promise(11, quote).text(text).find(-2, "a".repeat(1200));
        promise(11, quote).find(NONE, "a").find(-2, "");
    }

    private static void at() {
        String quote = "The STRING with an ADDRESS. NONE: none; -2: no such number.";
        promise(12, quote).is(NONE, "at", 0).is(NONE, "at", 999).is(-2, "at", 1000).is(-2, "at", -1).is(-2, "at", MIN).is(-2, "at", MAX);
        promise(12, quote).text("string 0:act a;string 999:act b;").is(0, "at", 0).is(1, "at", 999).is(NONE, "at", 1).is(NONE, "at", 998)
            .bounds(0, 0, 999, -2, -2, "at", 0).is(1, "drops", 0).is(NONE, "at", 0).is(0, "at", 999);
        promise(12, quote).text(full()).is(11, "at", 111).is(NONE, "at", 112).is(0, "at", 100).is(NONE, "at", 99);
    }

    // ---- ENTRIES, LINES, HEADS ----

    private static void entry() {
        String quote = "NONE: not so many; -2 (k below 0, too).";
        promise(13, quote).is(NONE, "entry", 0, 0).is(NONE, "entry", MAX, 5).is(-2, "entry", -1, 0).is(-2, "entry", MIN, 0).is(-2, "entry", 0, 6)
            .is(-2, "entry", 0, -1);
        Edge edge = promise(13, quote).text(PAIR);
        for (int what = 0; what < 6; what++) edge.bounds(0, 0, 3, -2, NONE, "entry", 0, what);
        edge.bounds(1, 0, 5, -2, -2, "entry", 0, 0).bounds(1, 0, 5, -2, -2, "entry", 3, 0).is(-2, "entry", 4, 6);
        promise(13, quote).text(full()).bounds(0, 0, 71, -2, NONE, "entry", 0, 0);
        promise(13, quote).text(NO_LINES).is(NONE, "entry", 0, 0);
        edge = promise(13, "Of the k-th ENTRY in ORDER (from 0), what 0: STRING, 1: TERM, 2: LINE, 3: how many ABOVE, 4: how many BELOW, 5: DOUBLES that went.");
        edge.text("string 9:act b,act a,act a,act c;string 3:act b,act a,act c;");
        // a of 3, of 9 (twice); b of 3, of 9; c of 3, of 9.
        int[][] want = {{1, 1, 0, 1, 1, 0}, {0, 1, 0, 1, 1, 1}, {0, 2, 0, 1, 1, 1}, {1, 0, 1, 0, 2, 0}, {0, 0, 1, 0, 2, 1}, {1, 2, 2, 2, 0, 0}, {0, 3, 2, 2, 0, 1}};
        for (int k = 0; k < want.length; k++) {
            for (int what = 0; what < 6; what++) edge.is(want[k][what], "entry", k, what);
        }
        edge.is(NONE, "entry", 7, 0);
    }

    private static void row() {
        String quote = "NONE: not so many ENTRIES, WORDS; -2 (k, i below 0, too).";
        promise(14, quote).is(NONE, "row", 0, 0, 0).is(NONE, "row", MAX, 1, MAX).is(-2, "row", -1, 0, 0).is(-2, "row", 0, 0, -1).is(-2, "row", 0, 2, 0)
            .is(-2, "row", 0, -1, 0).is(-2, "row", MIN, MIN, MIN);
        promise(14, quote).text("law act whole;string 1:act a,act b,act c;").bounds(0, 0, 2, -2, NONE, "row", 0, 1, 0).bounds(2, 0, 1, -2, NONE, "row", 0, 1, 0)
            .is(NONE, "row", 0, 0, 0).is(NONE, "row", 2, 0, 0).is(-2, "row", 2, 0, -1);
        promise(14, quote).text("law act near;string 1:act a,act b,act c;").bounds(0, 0, 2, -2, NONE, "row", 0, 0, 0).bounds(2, 0, 1, -2, NONE, "row", 0, 0, 0)
            .is(NONE, "row", 0, 1, 0).is(NONE, "row", 2, 1, 0).is(-2, "row", 2, 1, -1);
        promise(14, quote).text("string 1:not act a,act b,not act c;").bounds(1, 0, 1, -2, -2, "row", 0, 0, 0).bounds(2, 0, 0, -2, NONE, "row", 0, 0, 0)
            .bounds(2, 0, 0, -2, NONE, "row", 0, 1, 0).is(0, "row", 0, 0, 0).is(2, "row", 0, 1, 0);
        promise(14, quote).text("string 1:act a,not act b,not act c,not act d,not act e,not act f;").bounds(2, 0, 4, -2, NONE, "row", 0, 1, 0);
        // A DOUBLE that went is no WORD of the row.
        quote = "The i-th WORD (from 0) of a row of the k-th ENTRY, below 0: ABOVE, 1: BELOW.";
        promise(14, quote).text("string 1:act a,not act a,not act b,not act b;").is(1, "row", 0, 1, 0).is(NONE, "row", 0, 1, 1);
    }

    private static void line() {
        String quote = "Of a LINE, what 0: its first ENTRY, 1: how many ENTRIES, 2: how many ADDRESSES, 3: HEAD. -2.";
        promise(15, quote).is(-2, "line", 0, 0).is(-2, "line", -1, 0).is(-2, "line", MIN, 0).is(-2, "line", MAX, 0);
        promise(15, quote).text(NO_LINES).is(-2, "line", 0, 0);
        Edge edge = promise(15, quote).text(PAIR).bounds(0, 0, 3, -2, -2, "line", 0, 0).bounds(1, 0, 3, -2, -2, "line", 0, 0).bounds(1, 0, 3, -2, -2, "line", 3, 0);
        int[] heads = {0, 1, 1, 2};
        for (int l = 0; l < 4; l++) edge.is(l, "line", l, 0).is(1, "line", l, 1).is(1, "line", l, 2).is(heads[l], "line", l, 3);
        edge = promise(15, quote).text(MERGED);
        int[][] want = {{0, 4, 3, 0}, {4, 3, 3, 1}, {7, 1, 1, 2}};
        for (int l = 0; l < 3; l++) {
            for (int what = 0; what < 4; what++) edge.is(want[l][what], "line", l, what);
        }
        promise(15, quote).text(full()).bounds(0, 0, 71, -2, -2, "line", 0, 0).is(71, "line", 71, 0).is(71, "line", 71, 3);
        // More ENTRIES than LINES: what is no LINE's number may be an ENTRY's.
        promise(15, quote).text(twelveAlike()).bounds(0, 0, 0, -2, -2, "line", 0, 0).is(12, "line", 0, 1).is(12, "line", 0, 2);
    }

    private static void address() {
        String quote = "The k-th ADDRESS (from 0, rising) of a LINE. NONE: not so many; -2 (k below 0, too).";
        promise(16, quote).is(-2, "address", 0, 0).is(-2, "address", 0, -1).is(-2, "address", MAX, MAX).is(-2, "address", MIN, 0);
        promise(16, quote).text(MERGED).bounds(1, 0, 2, -2, NONE, "address", 0, 0).bounds(1, 0, 2, -2, NONE, "address", 1, 0)
            .bounds(1, 0, 0, -2, NONE, "address", 2, 0).bounds(0, 0, 2, -2, -2, "address", 0, 0)
            .is(5, "address", 0, 0).is(7, "address", 0, 1).is(9, "address", 0, 2).is(3, "address", 2, 0);
        Edge edge = promise(16, quote).text(twelveAlike()).bounds(1, 0, 11, -2, NONE, "address", 0, 0);
        for (int k = 0; k < 12; k++) edge.is(k, "address", 0, k);
        promise(16, quote).text("string 999:act a;string 0:act a;").is(0, "address", 0, 0).is(999, "address", 0, 1).is(NONE, "address", 0, 2);
    }

    private static void head() {
        String quote = "Of a HEAD, what 0: its WORD, 1: LINES, 2: ENTRIES, 3: STRINGS. -2.";
        promise(17, quote).is(-2, "head", 0, 0).is(-2, "head", -1, 0).is(-2, "head", MIN, 0).is(-2, "head", MAX, 0);
        promise(17, quote).text(NO_LINES).is(-2, "head", 0, 0);
        Edge edge = promise(17, quote).text(PAIR).bounds(0, 0, 2, -2, -2, "head", 0, 0).bounds(1, 0, 3, -2, -2, "head", 0, 0).bounds(1, 0, 3, -2, -2, "head", 2, 0);
        int[][] want = {{0, 1, 1, 1}, {1, 2, 2, 2}, {2, 1, 1, 1}};
        for (int h = 0; h < 3; h++) {
            for (int what = 0; what < 4; what++) edge.is(want[h][what], "head", h, what);
        }
        promise(17, quote).text(MERGED).is(1, "head", 0, 1).is(4, "head", 0, 2).is(3, "head", 0, 3);
        promise(17, quote).text(full()).bounds(0, 0, 71, -2, -2, "head", 0, 0).is(71, "head", 71, 0);
        // A WORD that doesn't lead is no HEAD.
        promise(17, quote).text("string 1:not act a,act b;string 2:not act c;").bounds(0, 0, 0, -2, -2, "head", 0, 0).is(1, "head", 0, 0);
    }

    // ---- printing ----

    private static void print() {
        String quote = "A LINE is PRINTED in OUT: how many bytes. -2 (OUT stays).";
        promise(18, quote).stays(-2, "print", 0).stays(-2, "print", -1).stays(-2, "print", MIN).stays(-2, "print", MAX);
        Edge edge = promise(18, quote).text(PAIR);
        for (int l = 0; l < 4; l++) edge.prints(l, PAIR_LINES[l]);
        edge.stays(-2, "print", 4).stays(-2, "print", -1).out("c, b 7").bounds(0, 0, 3, -2, -2, "print", 0);
        edge.say("string 1:not act a;").is(1, "text").stays(-2, "print", 0).out("c, b 7");
        promise(18, quote).text(full()).prints(71, "lf, le, ld, lc, lb, la 111").stays(-2, "print", 72).prints(0, "aa: ab. ac. ad. ae. af 100");
    }

    /**
     * Six STRINGS of six words of 7 letters: 24 LINES of 54 bytes, 6 of 55, 6 of 56, with LF 1998 bytes in all.
     * The second TERM is BELOW in one LINE alone; the last STRING's LINES are of 56.
     */
    private static String lines1998(String join) {
        int[] addresses = {0, 1, 2, 3, 44, 555};
        StringBuilder text = new StringBuilder();
        for (int s = 0; s < 6; s++) {
            text.append("string ").append(addresses[s]).append(":");
            for (int i = 0; i < 6; i++) {
                text.append(i == 0 ? "act " : ",act ").append((char) ('a' + s)).append("aaaaa").append((char) ('a' + i));
                if (s == 0 && i == 1) text.append(join);
            }
            text.append(";");
        }
        return text.toString();
    }

    private static void printAll() {
        String quote = "All LINES are PRINTED, LF (10) behind each, as far as they are whole within 2000 bytes: how many LINES are.";
        promise(19, quote).text(PAIR).lines(PAIR_LINES).is(10, "octet", 6);
        promise(19, quote).text("string 1:act a;").lines("a 1").is(4, "count", 9).is(10, "octet", 3);
        promise(19, quote).text(lines1998("")).is(36, "printAll").is(1998, "count", 9).is(10, "octet", 1997).is(NONE, "octet", 1998);
        promise(19, quote).text(lines1998(" via x")).is(36, "printAll").is(2000, "count", 9).is(10, "octet", 1999).is(NONE, "octet", 2000);
        // 2001 bytes: the last LINE goes (56 bytes and LF), its own bytes are all within 2000 but for LF.
        promise(19, quote).text(lines1998(" via xy")).is(35, "printAll").is(1944, "count", 9).is(10, "octet", 1943).is(NONE, "octet", 1944);
        promise(19, quote).text(lines1998(" via xyz")).is(35, "printAll").is(1945, "count", 9);
        // No LINE behind one that isn't whole, be it short enough.
        promise(19, quote).text(lines1998(" via xy") + "string 8:act z;").is(37, "count", 5).is(35, "printAll").is(1944, "count", 9);
        promise(19, quote).text(lines1998("") + "string 8:act z;").is(36, "printAll").is(1998, "count", 9);
        promise(19, quote).text(lines1998(" via xy")).is(35, "printAll").is(5, "drops", 0).is(30, "printAll").is(NONE, "octet", 1998 - 6 * 55);
        quote = "(Without LINES OUT is empty.)";
        promise(19, quote).is(0, "printAll").is(0, "count", 9).is(NONE, "octet", 0);
        promise(19, quote).text(PAIR).lines(PAIR_LINES).is(1, "drops", 0).is(0, "drops", 0).lines().is(0, "count", 9).is(NONE, "octet", 0);
        promise(19, quote).text(PAIR).prints(0, "a: b 5").text(NO_LINES).is(0, "printAll").is(0, "count", 9);
    }

    private static void octet() {
        String quote = "Byte i of OUT (what was told in it last by a call that was not refused, whatever came since; empty ahead of any). NONE: there is none such.";
        promise(20, quote).is(NONE, "octet", 0).is(NONE, "octet", -1).is(NONE, "octet", MIN).is(NONE, "octet", MAX);
        promise(20, quote).text(PAIR).is(NONE, "octet", 0);
        Edge edge = promise(20, quote).text(PAIR).is(6, "print", 0).each("octet", -1, NONE, 'a', ':', ' ', 'b', ' ', '5', NONE);
        edge.bounds(0, 0, 5, NONE, NONE, "octet", 0).is(-2, "print", 4).is(-2, "print", -1).is(0, "longest").is(4, "would", 0, 0, 0).out("a: b 5");
        edge.is(0, "law", 3, 2).is(1, "drops", 0).is(1, "undo").is(0, "undo").out("a: b 5").text("string 1:act x;").out("a: b 5");
        edge.say("!").is(-4, "text").say("!").is(-4, "adds").out("a: b 5").lines("x 1").prints(0, "x 1").is(NONE, "octet", 3);
        promise(20, quote).text(PAIR).lines(PAIR_LINES).prints(0, "a: b 5").is(NONE, "octet", 6);
        promise(20, quote).text(lines1998(" via x")).is(36, "printAll").bounds(0, 0, 1999, NONE, NONE, "octet", 0);
    }

    // ---- searching ----

    private static void rebuilt() {
        String quote = "Of the STRINGS the first that has an ENTRY with the LEAD, the row ABOVE, the row BELOW (as words) of the k-th ENTRY. "
            + "NONE: not so many; -2 (k below 0).";
        promise(21, quote).is(NONE, "rebuilt", 0).is(NONE, "rebuilt", MAX).is(-2, "rebuilt", -1).is(-2, "rebuilt", MIN);
        promise(21, quote).text(NO_LINES).is(NONE, "rebuilt", 0);
        promise(21, quote).text(MERGED).bounds(0, 0, 7, -2, NONE, "rebuilt", 0).each("rebuilt", 0, 0, 0, 0, 0, 0, 0, 0, 3, NONE);
        promise(21, quote).text(PAIR).each("rebuilt", 0, 0, 1, 0, 1, NONE);
        // The first by its number, not by its ADDRESS; a like STRING whose TERM doesn't lead has no such ENTRY.
        promise(21, quote).text("string 9:not act a;string 8:act a;string 7:act a;").each("rebuilt", 0, 1, 1, NONE);
        promise(21, quote).text(full()).is(11, "rebuilt", 71).is(NONE, "rebuilt", 72);
    }

    private static void begins() {
        String quote = "The TAPE (empty then) is letters (a .. z alone, 0 to 7): how many HEADS begin with them (k NONE), the k-th (from 0).";
        String text = "string 1:not act a,act ab,act abc,act abcdefg,act b;";
        promise(22, quote).text(text).begins(4, "", -1).begins(0, "", 0).begins(3, "", 3).begins(3, "a", -1).begins(3, "ab", -1).begins(2, "abc", -1)
            .begins(1, "abc", 0).begins(2, "abc", 1).begins(1, "abcdefg", -1).begins(2, "abcdefg", 0).begins(0, "abcdeff", -1).begins(3, "b", 0)
            .begins(0, "ba", -1).begins(0, "z", -1).begins(0, "law", -1);
        promise(22, quote).begins(0, "", -1).begins(0, "a", -1);
        quote = "NONE: not so many; -2 (k below NONE, other bytes; the TAPE is empty then, too).";
        promise(22, quote).text(text).begins(NONE, "", 4).begins(NONE, "abc", 2).begins(NONE, "z", 0).begins(NONE, "a", MAX).begins(-2, "a", -2)
            .begins(-2, "a", MIN).begins(-2, "", -2).begins(-2, "abcdefgh", -1).begins(-2, "abcdefgh", 0).begins(-2, "A", -1).begins(-2, "a ", -1)
            .begins(-2, " ", -1).begins(-2, "\n", 0).begins(-2, "a1", -1).begins(-2, "1", -2);
        promise(22, quote).text(text).begins(-2, "a".repeat(1200), -1);
        promise(22, quote).begins(NONE, "", 0).begins(-2, "", -2).begins(NONE, "", MAX).begins(-2, "!", -1).begins(-2, "!", 0);
        for (int octet = 0; octet < 256; octet++) {
            boolean known = octet >= 'a' && octet <= 'z';
            promise(22, quote).begins(known ? 0 : -2, "a" + (char) octet, -1);
        }
    }

    private static void having() {
        String quote = "STRINGS in which a WORD is, in a ROLE (role NONE: in any): as bits. -2 (role below NONE, too).";
        promise(23, quote).is(-2, "having", 0, -1).is(-2, "having", -1, 0).is(-2, "having", MIN, MIN).is(-2, "having", MAX, MAX);
        promise(23, quote).text(MIXED).bounds(0, 0, 4, -2, -2, "having", 0, -1).bounds(0, 0, 4, -2, -2, "having", 0, 0).bounds(1, -1, 5, -2, -2, "having", 0, 0)
            .is(0b00111, "having", 0, -1).is(0b00101, "having", 0, 0).is(0b00010, "having", 0, 2).is(0, "having", 0, 5).is(0b00100, "having", 2, 5)
            .is(0b10000, "having", 4, 5).is(0, "having", 4, 0);
        promise(23, quote).text(twelveAlike()).is(4095, "having", 0, -1).is(4095, "having", 0, 3).is(0, "having", 0, 2).is(0, "having", 0, 4);
        promise(23, quote).text("string 1:not act a;").is(1, "having", 0, -1).is(1, "having", 0, 3);
        promise(23, quote).text(full()).bounds(0, 0, 71, -2, -2, "having", 0, -1).is(2048, "having", 71, 3);
    }

    private static void sharing() {
        String quote = "STRINGS in which all WORDS of those of a STRING are that are told by a set (bits of its TERMS): as bits (of the empty set all). "
            + "-2 (bits of none that there are, too).";
        promise(24, quote).is(-2, "sharing", 0, 0).is(-2, "sharing", -1, 0).is(-2, "sharing", MAX, 1).is(-2, "sharing", MIN, MIN);
        promise(24, quote).text(MIXED).bounds(0, 0, 4, -2, -2, "sharing", 0, 0).bounds(1, 0, 7, -2, -2, "sharing", 0, 0).bounds(1, 0, 15, -2, -2, "sharing", 2, 0)
            .bounds(1, 0, 3, -2, -2, "sharing", 3, 0).bounds(1, 0, 1, -2, -2, "sharing", 4, 0).is(31, "sharing", 4, 0).is(-2, "sharing", 0, 9)
            .is(-2, "sharing", 0, MIN + 1).is(0b00111, "sharing", 0, 7).is(0b01000, "sharing", 3, 1).is(0b01111, "sharing", 3, 2).is(0b01000, "sharing", 3, 3);
        promise(24, quote).text(full()).bounds(1, 0, 63, -2, -2, "sharing", 11, 0).is(4095, "sharing", 0, 0).is(2048, "sharing", 11, 32).is(2048, "sharing", 11, 63);
    }

    private static void alike() {
        String quote = "2 the same ROLES and words, TERM by TERM, 1 one SENSE, 0 neither. -2.";
        promise(25, quote).is(-2, "alike", 0, 0).is(-2, "alike", MIN, MAX);
        promise(25, quote).text(MIXED).bounds(0, 0, 4, -2, -2, "alike", 0, 0).bounds(1, 0, 4, -2, -2, "alike", 0, 0).is(2, "alike", 4, 4).is(0, "alike", 0, 2);
        promise(25, quote).text("string 1:act a,act b;string 2:not act a via x,act b;string 3:act b,act a;string 4:act a,act b,act b;string 5:act a,form b;"
            + "string 6:act a;string 7:act a,act b,act c;").is(2, "alike", 0, 1).is(1, "alike", 0, 2).is(1, "alike", 0, 3).is(1, "alike", 3, 0)
            .is(0, "alike", 0, 4).is(0, "alike", 0, 5).is(0, "alike", 5, 0).is(0, "alike", 0, 6).is(0, "alike", 6, 0);
        // One TERM differs, the first, a middle one, the last one, in its word or in its ROLE.
        promise(25, quote).text("string 1:part a,act b,act c;string 2:part d,act b,act c;string 3:part a,act d,act c;string 4:part a,act b,act d;"
            + "string 5:thing a,act b,act c;string 6:part a,part b,act c;string 7:part a,act b,agent c;string 8:part a,not act b back x,act c;")
            .is(0, "alike", 0, 1).is(0, "alike", 0, 2).is(0, "alike", 0, 3).is(0, "alike", 0, 4).is(0, "alike", 0, 5).is(0, "alike", 0, 6).is(2, "alike", 0, 7);
        promise(25, quote).text(full()).bounds(0, 0, 11, -2, -2, "alike", 0, 0).bounds(1, 0, 11, -2, -2, "alike", 0, 0);
    }

    private static void common() {
        String quote = "How many twos of ROLE and word are in the SENSES of both STRINGS (what 0), of one or both (1). -2.";
        promise(26, quote).is(-2, "common", 0, 0, 0).is(-2, "common", MIN, MAX, 0);
        promise(26, quote).text(MIXED).bounds(0, 0, 4, -2, -2, "common", 0, 0, 0).bounds(1, 0, 4, -2, -2, "common", 0, 0, 1).bounds(2, 0, 1, -2, -2, "common", 0, 1, 0)
            .is(2, "common", 0, 1, 0).is(4, "common", 0, 1, 1).is(0, "common", 0, 4, 0).is(4, "common", 0, 4, 1).is(4, "common", 2, 2, 0).is(4, "common", 2, 2, 1);
        promise(26, quote).text("string 1:act a,act a,form a;string 2:act a,act a;").is(1, "common", 0, 1, 0).is(2, "common", 0, 1, 1).is(1, "common", 1, 1, 1);
        promise(26, quote).text(full()).is(6, "common", 11, 11, 0).is(0, "common", 0, 11, 0).is(12, "common", 0, 11, 1);
    }

    private static void nearest() {
        String quote = "The STRING that has most in common with a STRING (another one; above 0; of like ones the least number). NONE: none; -2.";
        promise(27, quote).is(-2, "nearest", 0).is(-2, "nearest", MIN).is(-2, "nearest", MAX);
        promise(27, quote).text(MIXED).bounds(0, 0, 4, -2, -2, "nearest", 0).each("nearest", 0, 2, 0, 0, NONE, NONE, -2);
        promise(27, quote).text("string 1:act a;").is(NONE, "nearest", 0);
        promise(27, quote).text("string 1:act a;string 2:form a;").is(NONE, "nearest", 0).is(NONE, "nearest", 1);
        promise(27, quote).text("string 1:act a;string 2:act a;string 3:act a,act b;string 4:act b;").each("nearest", 0, 1, 0, 0, 2);
        promise(27, quote).text(twelveAlike()).is(1, "nearest", 0).is(0, "nearest", 1).is(0, "nearest", 11).is(-2, "nearest", 12);
    }

    private static void senses() {
        String quote = "How many STRINGS there are, those of one SENSE counted once.";
        promise(28, quote).is(0, "senses");
        promise(28, quote).text("string 1:act a;").is(1, "senses");
        promise(28, quote).text(twelveAlike()).is(1, "senses");
        promise(28, quote).text(full()).is(12, "senses");
        promise(28, quote).text("string 1:act a,act b;string 2:form a;string 3:act b,act a;string 4:not form a,form a;").is(2, "senses");
    }

    private static void beside() {
        String quote = "WORDS that stand right ahead of a WORD in some STRING (what 0), right behind it (1): how many (k NONE), the k-th (from 0). "
            + "NONE: not so many; -2 (k below NONE, too).";
        promise(29, quote).is(-2, "beside", 0, 0, -1).is(-2, "beside", 0, 1, 0).is(-2, "beside", MIN, MIN, MIN).is(-2, "beside", MAX, 0, MAX);
        // Right ahead of a: a, b, d; right behind it: a, b, c.
        String text = "string 1:act b,act a,act c;string 2:act d,act a,act a;string 3:act a,act b;string 4:act e;";
        promise(29, quote).text(text).bounds(0, 0, 4, -2, -2, "beside", 0, 0, -1).bounds(1, 0, 1, -2, -2, "beside", 0, 0, -1)
            .bounds(2, -1, 2, -2, NONE, "beside", 0, 0, 0).bounds(2, -1, 2, -2, NONE, "beside", 0, 1, 0).is(3, "beside", 0, 0, -1).is(0, "beside", 0, 0, 0)
            .is(1, "beside", 0, 0, 1).is(3, "beside", 0, 0, 2).is(2, "beside", 0, 1, 2).is(0, "beside", 4, 0, -1).is(0, "beside", 4, 1, -1)
            .is(NONE, "beside", 4, 0, 0).is(NONE, "beside", 4, 1, MAX).is(-2, "beside", 4, 0, -2)
            // The first TERM has none ahead, the last none behind: STRINGS don't go over into one another.
            .is(0, "beside", 3, 0, -1).is(1, "beside", 2, 0, -1).is(0, "beside", 2, 1, -1);
        promise(29, quote).text(full()).bounds(0, 0, 71, -2, -2, "beside", 0, 1, -1).is(0, "beside", 0, 0, -1).is(1, "beside", 0, 1, 0).is(70, "beside", 71, 0, 0)
            .is(0, "beside", 71, 1, -1).is(0, "beside", 6, 0, -1).is(0, "beside", 5, 1, -1);
    }

    private static void often() {
        String quote = "In how many STRINGS a WORD is. -2.";
        promise(30, quote).is(-2, "often", 0).is(-2, "often", -1).is(-2, "often", MIN).is(-2, "often", MAX);
        promise(30, quote).text(MIXED).bounds(0, 0, 4, -2, -2, "often", 0).each("often", -1, -2, 3, 4, 3, 1, 1, -2);
        promise(30, quote).text("string 1:act a,form a;").is(1, "often", 0);
        promise(30, quote).text(twelveAlike()).is(12, "often", 0).is(-2, "often", 1);
        promise(30, quote).text(full()).bounds(0, 0, 71, -2, -2, "often", 0);
    }

    private static void most() {
        String quote = "The k-th WORD (from 0) by how many STRINGS it is in, the most first, of like ones the lesser number. NONE: not so many; -2 (k below 0).";
        promise(31, quote).is(NONE, "most", 0).is(NONE, "most", MAX).is(-2, "most", -1).is(-2, "most", MIN);
        promise(31, quote).text(MIXED).bounds(0, 0, 4, -2, NONE, "most", 0).each("most", -1, -2, 1, 0, 2, 3, 4, NONE);
        promise(31, quote).text(full()).bounds(0, 0, 71, -2, NONE, "most", 0).is(0, "most", 0).is(71, "most", 71);
        // More often in one STRING is not in more STRINGS.
        promise(31, quote).text("string 1:act a,act a,act a,act b;string 2:act b;").each("most", 0, 1, 0, NONE);
    }

    private static void apart() {
        String quote = "The fewest TERMS (as bits, of as few the least number) of a STRING whose words are together in no other STRING. "
            + "NONE: all of them are in another one, too; -2.";
        promise(32, quote).is(-2, "apart", 0).is(-2, "apart", -1).is(-2, "apart", MIN).is(-2, "apart", MAX);
        promise(32, quote).text("string 1:act a,act b;").is(0, "apart", 0).is(-2, "apart", 1);
        promise(32, quote).text(MIXED).bounds(0, 0, 4, -2, -2, "apart", 0).each("apart", -1, -2, NONE, NONE, NONE, 1, 1, -2);
        promise(32, quote).text("string 1:act a;string 2:act a;").each("apart", 0, NONE, NONE);
        promise(32, quote).text("string 1:act a,act a;string 2:form a;").each("apart", 0, NONE, NONE);
        promise(32, quote).text("string 1:act a,act b;string 2:act a,act c;string 3:act b,act c;").each("apart", 0, 3, 3, 3);
        promise(32, quote).text("string 1:act x,act y,act z;string 2:act w;").each("apart", 0, 1, 1);
        // The sixth alone; all six together.
        promise(32, quote).text("string 1:act a,act b,act c,act d,act e,act f;string 2:act a,act b,act c,act d,act e;").each("apart", 0, 32, NONE);
        promise(32, quote).text("string 1:act a,act b,act c,act d,act e,act f;string 2:act b,act c,act d,act e,act f;string 3:act a,act c,act d,act e,act f;"
            + "string 4:act a,act b,act d,act e,act f;string 5:act a,act b,act c,act e,act f;string 6:act a,act b,act c,act d,act f;"
            + "string 7:act a,act b,act c,act d,act e;").each("apart", 0, 63, NONE);
        // Of a with c (5), a with d (9), b with d (10), c with d (12) the least.
        promise(32, quote).text("string 1:act a,act b,act c,act d;string 2:act a,act b;string 3:act b,act c;string 4:act d;").each("apart", 0, 5, NONE, NONE, NONE);
        promise(32, quote).text("string 1:act a,act b,act c;string 2:act a;string 3:act b;").is(4, "apart", 0);
    }

    private static void cover() {
        String quote = "The fewest STRINGS (bits, of as few the least number) in which all WORDS are. NONE: there are no WORDS.";
        promise(33, quote).is(NONE, "cover");
        promise(33, quote).text("law act near;see a b;").is(NONE, "cover");
        promise(33, quote).text("string 1:act a;").is(1, "cover").is(0, "drops", 0).is(NONE, "cover");
        promise(33, quote).text("string 1:not act a;").is(1, "cover");
        promise(33, quote).text(MIXED).is(0b11001, "cover");
        promise(33, quote).text(twelveAlike()).is(1, "cover");
        promise(33, quote).text(full()).is(4095, "cover");
        promise(33, quote).text(EdgesOfTerms.strings(0, 11) + "string 11:act a,act b;").is(4095 & ~3, "cover");
        promise(33, quote).text("string 1:act a;string 2:act b;string 3:act a,act b;").is(4, "cover");
        promise(33, quote).text("string 1:act a,act b;string 2:act c,act d;string 3:act c,act d;string 4:act a,act b;").is(3, "cover");
    }

    private static void would() {
        String quote = "How many ENTRIES there would be if a ROLE had a WAY (what 0), LINES (1), DOUBLES that went (2). -2.";
        promise(34, quote).bounds(0, 0, 5, -2, -2, "would", 0, 0, 0).bounds(1, 0, 2, -2, -2, "would", 0, 0, 0).bounds(2, 0, 2, -2, -2, "would", 0, 0, 0)
            .is(0, "would", 5, 2, 2);
        String text = "string 1:act a,act b;string 2:act a,act c;string 3:act b,act a,act a;string 4:not act d;";
        Edge edge = promise(34, quote).text(text).bounds(0, 0, 5, -2, -2, "would", 3, 1, 1).bounds(1, 0, 2, -2, -2, "would", 3, 1, 1)
            .bounds(2, 0, 2, -2, -2, "would", 3, 1, 1);
        // plain: a: b 1; a: c 2; a, b 3 (twice); b: a 3; b, a 1; c, a 2. whole: a: b 1; a: b. a 3 (twice); a: c 2; b: a 1,3; c: a 2.
        // near: a, b 1,3; a, b, a 3; a, c 2; b, a 1,3; c, a 2.
        int[][] want = {{7, 6, 3}, {7, 5, 1}, {7, 5, 2}};
        for (int way = 0; way < 3; way++) {
            for (int what = 0; what < 3; what++) edge.stays(want[way][what], "would", 3, way, what);
        }
        edge.is(6, "would", 0, 1, 1).is(6, "would", 5, 2, 1).is(0, "law", 3, 1);
        for (int what = 0; what < 3; what++) edge.is(want[0][what], "would", 3, 0, what).is(want[1][what], "would", 3, 1, what).is(want[1][what], "would", 0, 2, what);
        // In each ENTRY one goes, the first and the last one counted.
        promise(34, quote).text("string 1:act a,act a;").is(2, "would", 3, 0, 2).is(2, "would", 3, 1, 2).is(2, "would", 3, 2, 2).is(1, "would", 3, 2, 1);
        promise(34, quote).text(full()).is(72, "would", 3, 2, 0).is(72, "would", 3, 1, 1).is(0, "would", 3, 1, 2);
    }

    // ---- acts ----

    private static void adds() {
        String quote = "The TAPE (empty then) is a string LINE (without string, with ; at its end): it comes as the last STRING: its number.";
        Edge edge = promise(35, quote).adds(0, "0:act a;").is(0, "count", 8).adds(1, " \n999 :\nnot act b via x back y , form c ; \n").is(999, "string", 1, 0)
            .is(2, "string", 1, 1).is(1, "string", 1, 2).is(2, "count", 7).lines("a 0", "c, b y 999");
        edge.faultyAdds(1, "^string 1:act a;").faultyAdds(1, "1:act a^").faultyAdds(1, "1:act a ^").faultyAdds(1, "1^;").faultyAdds(1, "1:act a;^;").faultyAdds(1, "1:act a; ^2:act b;")
            .faultyAdds(1, "1:act a; ^string 2:act b;").faultyAdds(1, "1:act a;^law act near;");
        promise(35, quote).text("see z a;" + EdgesOfTerms.strings(0, 11)).adds(11, "11:act z;").is(0, "term", 11, 0, 2).is(12, "count", 0);
        promise(35, quote).adds(0, "5" + " ".repeat(1191) + ":act a; ").is(5, "string", 0, 0);
        quote = "-4: a FAULT (as of a TEXT; the TAPE is empty)";
        Edge kept = promise(35, quote).text(EdgesOfTerms.ACTED).is(0, "law", 0, 2).prints(0, "a 9");
        kept.faultyAdds(1, "^").faultyAdds(1, "  ^").faultyAdds(1, "^!").faultyAdds(1, "^law act near;").faultyAdds(1, "^see b c;");
        kept.faultyAdds(2, "^1000:act a;").faultyAdds(3, "^5:act x;").faultyAdds(3, " ^009:act x;").faultyAdds(1, "8:act ^abcdefgh;");
        kept.faultyAdds(4, "8:act a,act a,act a,act a,act a,act a,^act a;").faultyAdds(4, "8:act a,act a,act a,act a,act a,act a,^not");
        kept.faultyAdds(5, "8:act x,^place x;").faultyAdds(1, "8:act x,act y via z^").is(1, "count", 7).is(0, "undo").is(3, "count", 0);
        quote = "-5: there are 12 (the TAPE stays).";
        edge = promise(35, quote).text(EdgesOfTerms.strings(0, 12)).say("12:act m;").stays(-5, "adds").is(9, "count", 8).is(11, "drops", 0).is(11, "adds")
            .is(12, "string", 11, 0).is(0, "count", 8).is(12, "count", 0);
        edge.say("!").stays(-5, "adds").is(1, "count", 8).is(0, "end", 0).stays(-5, "adds").is(1, "undo").adds(11, "13:act z;").is(13, "string", 11, 0);
        promise(35, quote).text(EdgesOfTerms.strings(0, 11)).adds(11, "11:act m;").stays(-5, "adds");
    }

    private static void drops() {
        String quote = "A STRING goes; those behind it have a number less: how many there are. -2.";
        promise(36, quote).stays(-2, "drops", 0).stays(-2, "drops", -1).stays(-2, "drops", MIN).stays(-2, "drops", MAX);
        promise(36, quote).text(EdgesOfTerms.strings(0, 12)).bounds(0, 0, 11, -2, -2, "drops", 0);
        Edge edge = promise(36, quote).text(EdgesOfTerms.strings(0, 12)).is(11, "drops", 0);
        for (int s = 0; s < 11; s++) edge.is(s + 1, "string", s, 0).is(s, "term", s, 0, 2);
        edge.is(-2, "string", 11, 0).is(NONE, "at", 0).is(10, "drops", 10).is(10, "string", 9, 0).is(NONE, "at", 11).is(9, "drops", 4).is(4, "string", 3, 0)
            .is(6, "string", 4, 0).stays(-2, "drops", 9);
        promise(36, quote).text(EdgesOfTerms.ACTED).is(2, "drops", 1).lines("a 9", "a: p b 5", "b, a 5").is(1, "count", 2).is(1, "drops", 1).is(0, "drops", 0)
            .is(0, "count", 3).stays(-2, "drops", 0).is(1, "count", 2).is(2, "way", 5).is(3, "count", 7).is(2, "undo").is(1, "count", 0);
    }

    private static void law() {
        String quote = "A ROLE has another WAY: what it was. -2.";
        promise(37, quote).bounds(0, 0, 5, -2, -2, "law", 0, 1).bounds(1, 0, 2, -2, -2, "law", 0, 0);
        promise(37, quote).text(PAIR).bounds(0, 0, 5, -2, -2, "law", 0, 1).bounds(1, 0, 2, -2, -2, "law", 3, 0)
            .is(0, "law", 3, 1).lines("a: b 5", "b: a 5", "b: c 7", "c, b 7").is(1, "law", 3, 2).lines("a, b 5", "b, a 5", "b, c 7", "c, b 7")
            .stays(2, "law", 3, 2).is(2, "count", 7).is(2, "law", 3, 0).lines(PAIR_LINES).each("way", 0, 0, 0, 0, 0, 0, 0).is(3, "count", 7);
        promise(37, quote).text(PAIR).is(0, "law", 0, 2).is(0, "law", 5, 1).each("way", 0, 2, 0, 0, 0, 0, 1).stays(-2, "law", 6, 0).stays(-2, "law", 0, 3);
    }

    private static void lead() {
        String quote = "A TERM leads from now on (1), or not (0): what it was (1, 0; an act if it was otherwise). -2.";
        promise(38, quote).stays(-2, "lead", 0, 0, 0).stays(-2, "lead", MIN, MIN, MIN).stays(-2, "lead", MAX, MAX, MAX);
        promise(38, quote).text(PAIR).bounds(0, 0, 1, -2, -2, "lead", 0, 0, 0).bounds(1, 0, 1, -2, -2, "lead", 0, 0, 0).bounds(2, 0, 1, -2, -2, "lead", 0, 0, 0)
            .stays(1, "lead", 0, 0, 1).is(0, "count", 7).is(1, "lead", 0, 0, 0).is(1, "count", 7).stays(0, "lead", 0, 0, 0).lines("b: c 7", "b, a 5", "c, b 7")
            .is(0, "lead", 0, 0, 1).is(2, "count", 7).lines(PAIR_LINES);
        promise(38, quote).text(full()).is(1, "lead", 11, 5, 0).is(71, "count", 4).is(71, "count", 6).is(72, "count", 3).stays(-2, "lead", 11, 6, 0)
            .stays(-2, "lead", 12, 0, 0);
        promise(38, quote).text("string 1:act a;string 2:act b,act c;").bounds(1, 0, 0, -2, -2, "lead", 0, 0, 0).bounds(1, 0, 1, -2, -2, "lead", 1, 0, 0);
    }

    private static void swaps() {
        String quote = "Two TERMS of a STRING change places: 1 (an act). -6: ROLES would fall; -2 (one and the same, too).";
        promise(39, quote).stays(-2, "swaps", 0, 0, 1).stays(-2, "swaps", MIN, MIN, MIN).stays(-2, "swaps", MAX, MAX, MAX);
        String text = "string 1:thing a via p back q,not thing b,act c,act d;string 2:act x,act y;";
        Edge edge = promise(39, quote).text(text).bounds(0, 0, 1, -2, -2, "swaps", 0, 0, 1).bounds(1, 0, 3, -2, -2, "swaps", 0, 0, 1)
            .bounds(2, 0, 3, -2, -2, "swaps", 0, 1, 0).bounds(2, 0, 0, -2, -2, "swaps", 1, 1, 0);
        for (int i = 0; i < 4; i++) edge.stays(-2, "swaps", 0, i, i);
        edge.stays(-6, "swaps", 0, 0, 2).stays(-6, "swaps", 0, 2, 0).stays(-6, "swaps", 0, 1, 2).stays(-6, "swaps", 0, 3, 0).stays(-2, "swaps", 1, 0, 2)
            .stays(-2, "swaps", 1, -1, 0).is(0, "count", 7);
        // All of a TERM goes with it: its word, joins and whether it leads.
        edge.is(1, "swaps", 0, 1, 0).is(0, "term", 0, 0, 1).is(1, "term", 0, 1, 1).is(1, "term", 0, 1, 3).is(1, "term", 0, 1, 4).is(0, "term", 0, 0, 3)
            .is(1, "term", 0, 0, 2).is(0, "term", 0, 1, 2).is(1, "count", 7).is(1, "swaps", 0, 2, 3).is(2, "count", 7)
            .lines("a, b: d. c 1", "c, d, a q, b 1", "d, a q, b: c 1", "x: y 2", "y, x 2");
        promise(39, quote).text("string 1:act a,act b,act c,act d,act e,act f;").is(1, "swaps", 0, 5, 0).is(5, "term", 0, 0, 2).is(0, "term", 0, 5, 2);
        promise(39, quote).text("string 1:act a;").stays(-2, "swaps", 0, 0, 0).stays(-2, "swaps", 0, 0, 1);
    }

    private static void see() {
        String quote = "A WORD stands for another one from now on (a see more): how many sees. -5: there are 12; -6: they are one; -2.";
        promise(40, quote).stays(-2, "see", 0, 1).stays(-2, "see", 0, 0).stays(-2, "see", MIN, MAX);
        Edge edge = promise(40, quote).text("string 1:act a,act b via a,act c;").bounds(0, 0, 2, -2, -2, "see", 0, 1).bounds(1, 0, 2, -2, -2, "see", 1, 0);
        for (int word = 0; word < 3; word++) edge.stays(-6, "see", word, word);
        // a for c: WORDS b, c; then b for c: one WORD.
        edge.is(1, "see", 0, 2).is(2, "count", 3).find(1, "a").lines("b, c: c 1", "c: c b. c 1", "c, b, c 1").stays(-2, "see", 2, 0).is(2, "see", 0, 1).is(1, "count", 3)
            .find(0, "a").find(0, "b").lines("c 1").stays(-6, "see", 0, 0).stays(-2, "see", 0, 1).is(2, "count", 7);
        promise(40, quote).text(EdgesOfTerms.sees(11) + "string 1:act w,act x,act y;").is(12, "see", 0, 1).is(2, "count", 3).stays(-5, "see", 0, 1)
            .stays(-5, "see", 1, 0).stays(-2, "see", 0, 2).is(11, "forget", 3).is(12, "see", 1, 0).is(12, "count", 2).is(1, "count", 3);
        promise(40, quote).text(EdgesOfTerms.sees(12) + "string 1:act x,act y;").stays(-5, "see", 0, 1).stays(-5, "see", 1, 0).is(12, "count", 2);
        promise(40, quote).text(full()).bounds(0, 0, 71, -2, -2, "see", 0, 1).is(1, "see", 71, 0).is(71, "count", 3).stays(-2, "see", 71, 0);
    }

    private static void forget() {
        String quote = "The k-th see (from 0) goes: how many there are. NONE: not so many; -2 (k below 0).";
        promise(41, quote).stays(NONE, "forget", 0).stays(NONE, "forget", MAX).stays(-2, "forget", -1).stays(-2, "forget", MIN);
        promise(41, quote).text(EdgesOfTerms.sees(12) + "string 1:act a;").bounds(0, 0, 11, -2, NONE, "forget", 0);
        // Of a way over 12 sees from a to m one goes: a leads no farther than to it.
        for (int k = 0; k < 12; k++) {
            promise(41, quote).text(EdgesOfTerms.sees(12) + "string 1:act a;").is(11, "forget", k).is(k + 1, "letter", 0, 0).stays(NONE, "forget", 11).is(11, "count", 2);
        }
        promise(41, quote).text("see a b;see c d;see e f;string 1:act b,act d,act f;").is(2, "forget", 1).find(0, "a").find(NONE, "c").find(2, "e").is(1, "forget", 1)
            .find(NONE, "e").find(0, "a").stays(NONE, "forget", 1).is(0, "forget", 0).find(NONE, "a").stays(NONE, "forget", 0).is(3, "count", 7);
        // What see() told comes last.
        promise(41, quote).text("see a b;string 1:act x,act y;").is(2, "see", 0, 1).is(1, "count", 3).is(1, "forget", 1).is(2, "count", 3).is(0, "forget", 0);
    }

    private static void moves() {
        String quote = "The ADDRESS of a STRING becomes another one: what it was. -6: another one has it; -2.";
        promise(42, quote).stays(-2, "moves", 0, 0).stays(-2, "moves", MIN, MIN).stays(-2, "moves", MAX, MAX);
        promise(42, quote).text(PAIR).bounds(0, 0, 1, -2, -2, "moves", 0, 6).bounds(1, 0, 999, -2, -2, "moves", 0, 0).bounds(1, 0, 999, -2, -2, "moves", 1, 0)
            .stays(-6, "moves", 0, 7).stays(-6, "moves", 1, 5).stays(5, "moves", 0, 5).is(0, "count", 7)
            .is(5, "moves", 0, 0).is(0, "moves", 0, 999).is(7, "moves", 1, 5).stays(-6, "moves", 0, 5).is(3, "count", 7).is(0, "at", 999).is(1, "at", 5).is(NONE, "at", 7)
            .lines("a: b 999", "b: c 5", "b, a 999", "c, b 5").stays(-2, "moves", 0, 1000).stays(-2, "moves", 0, -1).stays(-2, "moves", 2, 5);
        promise(42, quote).text(EdgesOfTerms.strings(0, 12)).stays(-6, "moves", 0, 11).stays(-6, "moves", 11, 0).is(11, "moves", 11, 12).is(0, "moves", 0, 11);
    }

    private static void undo() {
        String quote = "The latest act is undone: how many can be. NONE: none.";
        promise(43, quote).stays(NONE, "undo");
        promise(43, quote).text(PAIR).stays(NONE, "undo");
        Edge edge = promise(43, quote).text(PAIR).is(5, "moves", 0, 1).is(0, "law", 3, 1).is(1, "lead", 1, 1, 0);
        edge.is(2, "undo").is(1, "term", 1, 1, 1).is(1, "way", 3).is(1, "undo").is(0, "way", 3).is(1, "string", 0, 0).is(0, "undo").is(5, "string", 0, 0).lines(PAIR_LINES)
            .stays(NONE, "undo").stays(NONE, "undo");
        // What is refused, or changes nothing, is no act.
        promise(43, quote).text(PAIR).is(5, "moves", 0, 1).is(-6, "moves", 0, 7).is(-2, "drops", 2).is(0, "law", 3, 0).is(NONE, "forget", 0).say("!").is(-4, "adds")
            .is(1, "count", 7).is(0, "undo").is(5, "string", 0, 0);
        // An act behind one that was undone takes its place.
        promise(43, quote).text(PAIR).is(5, "moves", 0, 1).is(1, "moves", 0, 2).is(1, "undo").is(1, "moves", 0, 3).is(2, "count", 7).is(1, "undo").is(1, "string", 0, 0)
            .is(0, "undo").is(5, "string", 0, 0);
        // The TAPE, OUT and the FAULT stay.
        promise(43, quote).text(PAIR).adds(2, "9:act a;").is(3, "print", 0).say("string 1000").is(-4, "adds").say("ab").is(0, "undo").is(2, "count", 8)
            .is(1, "fault", 0).is(0, "fault", 1).out("a 9");
        promise(43, quote).text(PAIR).is(5, "moves", 0, 1).text(PAIR).stays(NONE, "undo");
    }

    // ---- more searching ----

    private static void gather() {
        String quote = "WORDS that are told in a ROLE: how many (k NONE), the k-th (from 0). NONE: not so many; -2 (k below NONE, too).";
        promise(44, quote).is(0, "gather", 0, -1).is(NONE, "gather", 0, 0).is(NONE, "gather", 5, MAX).is(-2, "gather", 0, -2).is(-2, "gather", 0, MIN)
            .bounds(0, 0, 5, -2, -2, "gather", 0, -1);
        promise(44, quote).text(MIXED).bounds(0, 0, 5, -2, -2, "gather", 0, -1).bounds(1, -1, 2, -2, NONE, "gather", 2, 0).is(3, "gather", 2, -1).is(0, "gather", 2, 0)
            .is(2, "gather", 2, 1).is(3, "gather", 2, 2).is(0, "gather", 4, -1).is(NONE, "gather", 4, 0).is(-2, "gather", 4, -2).is(2, "gather", 5, -1)
            .is(4, "gather", 5, 1);
        promise(44, quote).text("string 1:act a,not act a;string 2:act a;").is(1, "gather", 3, -1);
        promise(44, quote).text(full()).bounds(1, -1, 71, -2, NONE, "gather", 3, 0).is(72, "gather", 3, -1).is(71, "gather", 3, 71);
    }

    private static void lost() {
        String quote = "TERMS of its STRING, as bits, that are not in the k-th ENTRY (DOUBLES that went). NONE: not so many; -2 (k below 0).";
        promise(45, quote).is(NONE, "lost", 0).is(NONE, "lost", MAX).is(-2, "lost", -1).is(-2, "lost", MIN);
        promise(45, quote).text(NO_LINES).is(NONE, "lost", 0);
        promise(45, quote).text(PAIR).bounds(0, 0, 3, -2, NONE, "lost", 0).each("lost", 0, 0, 0, 0, 0, NONE);
        promise(45, quote).text("string 1:act a,act a,act a,act a,act a,act a;").each("lost", -1, -2, 62, 61, 59, 55, 47, 31, NONE);
        promise(45, quote).text(full()).bounds(0, 0, 71, -2, NONE, "lost", 0);
    }

    /** 12 STRINGS of two words each, every second word the next one's first. */
    private static String chained() {
        StringBuilder text = new StringBuilder();
        for (int i = 0; i < 12; i++) {
            text.append("string ").append(i).append(":act ").append((char) ('a' + i)).append(",act ").append((char) ('b' + i)).append(";");
        }
        return text.toString();
    }

    private static void chain() {
        String quote = "The fewest steps from a WORD to another one, each to one that is in a STRING with it (0: they are one). NONE: there is no such way; -2.";
        promise(46, quote).is(-2, "chain", 0, 0).is(-2, "chain", -1, -1).is(-2, "chain", MIN, MAX);
        Edge edge = promise(46, quote).text(chained()).bounds(0, 0, 12, -2, -2, "chain", 0, 0).bounds(1, 0, 12, -2, -2, "chain", 0, 0);
        for (int word = 0; word < 13; word++) edge.is(word, "chain", 0, word).is(word, "chain", word, 0).is(12 - word, "chain", word, 12).is(0, "chain", word, word);
        promise(46, quote).text("string 1:act a;string 2:act b;").is(NONE, "chain", 0, 1).is(NONE, "chain", 1, 0).is(0, "chain", 1, 1);
        promise(46, quote).text(chained()).is(11, "drops", 6).is(NONE, "chain", 0, 12).is(6, "chain", 0, 6).is(NONE, "chain", 6, 7).is(5, "chain", 7, 12);
        promise(46, quote).text("string 1:act a,act b,act c;string 2:not act c,form d;string 3:act a,act e;string 4:act e,act d;").is(1, "chain", 0, 2).is(2, "chain", 0, 3)
            .is(2, "chain", 4, 1).is(1, "chain", 3, 4);
        promise(46, quote).text(full()).is(1, "chain", 66, 71).is(NONE, "chain", 0, 71).is(-2, "chain", 0, 72);
    }

    private static void groups() {
        String quote = "Into how many groups WORDS fall by such steps.";
        promise(47, quote).is(0, "groups");
        promise(47, quote).text("see a b;").is(0, "groups");
        promise(47, quote).text("string 1:not act a,act a;").is(1, "groups");
        promise(47, quote).text(full()).is(12, "groups");
        promise(47, quote).text(chained()).is(1, "groups").is(11, "drops", 6).is(2, "groups").is(10, "drops", 2).is(3, "groups");
        promise(47, quote).text(twelveAlike()).is(1, "groups");
        promise(47, quote).text("string 1:act a,act d;string 2:act b,act e;string 3:act d,act e;string 4:act c;").is(2, "groups");
    }

    private static void longest() {
        String quote = "The LINE that has most bytes as it is PRINTED (of like ones the least number). NONE: there are none.";
        promise(48, quote).is(NONE, "longest");
        promise(48, quote).text(NO_LINES).is(NONE, "longest");
        promise(48, quote).text("string 1:act a;").is(0, "longest");
        promise(48, quote).text("string 1:act a;string 2:act b;string 3:act c;").is(0, "longest");
        // By all that is PRINTED: words, joins, ADDRESSES.
        promise(48, quote).text("string 1:act a;string 2:act b;string 3:act cc;").is(2, "longest");
        promise(48, quote).text("string 1:act a;string 2:act b;string 33:act c;").is(2, "longest");
        promise(48, quote).text("string 1:act a;string 2:act b;string 3:act b;string 4:act c;").is(1, "longest");
        promise(48, quote).text("string 1:act a,not act x;string 2:act b,not act x via v;string 3:act c,not act x;").is(1, "longest");
        promise(48, quote).text(full()).is(0, "longest").stays(0, "longest");
    }

    private static void shown() {
        String quote = "In how many LINES a WORD is the LEAD (what 0), ABOVE (1), BELOW (2), as they are PRINTED. -2.";
        promise(49, quote).is(-2, "shown", 0, 0).is(-2, "shown", MIN, MIN).is(-2, "shown", MAX, MAX);
        Edge edge = promise(49, quote).text(PAIR).bounds(0, 0, 2, -2, -2, "shown", 0, 0).bounds(1, 0, 2, -2, -2, "shown", 0, 0);
        int[][] want = {{1, 1, 0}, {2, 1, 1}, {1, 0, 1}};
        for (int word = 0; word < 3; word++) {
            for (int what = 0; what < 3; what++) edge.is(want[word][what], "shown", word, what);
        }
        // LINES, not ENTRIES; a WORD twice in a row counts once, a DOUBLE that went and a join not at all.
        promise(49, quote).text(MERGED).is(1, "shown", 0, 0).is(1, "shown", 0, 1).is(1, "shown", 1, 2).is(0, "shown", 2, 1);
        promise(49, quote).text("string 1:act a,not act b,not act a,not act b;").is(1, "shown", 1, 2).is(1, "shown", 0, 2).is(1, "shown", 0, 0);
        promise(49, quote).text("string 1:act a,not act a;string 2:act b,not act d via c;string 3:not act c;").is(0, "shown", 0, 2).is(0, "shown", 2, 2).is(0, "shown", 2, 0);
        promise(49, quote).text(full()).bounds(0, 0, 71, -2, -2, "shown", 0, 0).is(5, "shown", 71, 2).is(0, "shown", 71, 1).is(1, "shown", 71, 0);
    }

    private static void twins() {
        String quote = "STRINGS (others) that have an ENTRY in a LINE with one of a STRING, as bits. -2.";
        promise(50, quote).is(-2, "twins", 0).is(-2, "twins", -1).is(-2, "twins", MIN).is(-2, "twins", MAX);
        promise(50, quote).text(MERGED).bounds(0, 0, 3, -2, -2, "twins", 0).each("twins", 0, 0b0110, 0b0101, 0b0011, 0, -2);
        promise(50, quote).text(twelveAlike()).is(4094, "twins", 0).is(2047, "twins", 11).is(-2, "twins", 12);
        promise(50, quote).text("string 1:act a,act a;").is(0, "twins", 0);
        promise(50, quote).text(full()).bounds(0, 0, 11, -2, -2, "twins", 0).each("twins", 0, 0, 0, 0, 0, 0, 0, 0, 0, 0, 0, 0, 0, -2);
        // By one ENTRY; not through a third STRING; not without one that leads.
        promise(50, quote).text("string 1:act a,act b;string 2:not act a,act b;string 3:act a,not act b;string 4:not act a,not act b;").each("twins", 0, 6, 1, 1, 0);
    }

    private static void rarest() {
        String quote = "The TERM of a STRING whose word is in the fewest STRINGS (of like ones the least place). -2.";
        promise(51, quote).is(-2, "rarest", 0).is(-2, "rarest", -1).is(-2, "rarest", MIN).is(-2, "rarest", MAX);
        promise(51, quote).text(MIXED).bounds(0, 0, 4, -2, -2, "rarest", 0).each("rarest", 0, 0, 1, 0, 0, 0, -2);
        promise(51, quote).text(twelveAlike()).is(0, "rarest", 11);
        promise(51, quote).text("string 1:act b,act a;").is(0, "rarest", 0);
        promise(51, quote).text("string 1:act a,act a,act a,act a,act a,act b;string 2:act a;").is(5, "rarest", 0);
        promise(51, quote).text("string 1:act a,act b;string 2:act a;string 3:act b;").is(0, "rarest", 0);
    }

    private static void crossed() {
        String quote = "STRINGS that have ENTRIES under two HEADS (they may be one), as bits. -2.";
        promise(52, quote).is(-2, "crossed", 0, 0).is(-2, "crossed", MIN, MAX);
        promise(52, quote).text(NO_LINES).is(-2, "crossed", 0, 0);
        promise(52, quote).text(PAIR).bounds(0, 0, 2, -2, -2, "crossed", 0, 0).bounds(1, 0, 2, -2, -2, "crossed", 0, 0).is(1, "crossed", 0, 0).is(1, "crossed", 0, 1)
            .is(3, "crossed", 1, 1).is(2, "crossed", 2, 1).is(0, "crossed", 0, 2);
        promise(52, quote).text(twelveAlike()).is(4095, "crossed", 0, 0).is(-2, "crossed", 0, 1).is(-2, "crossed", 1, 0);
        promise(52, quote).text(full()).bounds(0, 0, 71, -2, -2, "crossed", 0, 0).bounds(1, 0, 71, -2, -2, "crossed", 0, 0).is(2048, "crossed", 66, 71);
        // A HEAD's number is not its WORD's; a STRING in which it doesn't lead is not under it.
        promise(52, quote).text("string 1:not act a,act b,act c;string 2:not act b,act c;").is(1, "crossed", 0, 1).is(3, "crossed", 1, 1).is(-2, "crossed", 2, 0);
    }

    private static void shared() {
        String quote = "How many WORDS that are told in a ROLE are in two STRINGS or more (in whatever ROLE there). -2.";
        promise(53, quote).bounds(0, 0, 5, -2, -2, "shared", 0).is(0, "shared", 0).is(0, "shared", 5);
        promise(53, quote).text(MIXED).bounds(0, 0, 5, -2, -2, "shared", 0).each("shared", -1, -2, 1, 1, 2, 1, 0, 1, -2);
        promise(53, quote).text("string 1:act a,act a;").is(0, "shared", 3);
        promise(53, quote).text("string 1:act a,form a;").is(0, "shared", 3).is(0, "shared", 5);
        promise(53, quote).text("string 1:act a;string 2:form a;").is(1, "shared", 3).is(1, "shared", 5).is(0, "shared", 4);
        promise(53, quote).text("string 1:act a;string 2:act a;string 3:not act a;").is(1, "shared", 3);
        promise(53, quote).text(full()).is(0, "shared", 3);
    }

    /** A question is no act: behind each one all is as it was, the TAPE and OUT, too. */
    private static void questionsChangeNothing() {
        Edge edge = Edge.terms("ACTS: adds(), drops(), law() to another WAY, lead(), swaps() of two TERMS, see() and forget(), moves() to another one.");
        edge.text("see z a;" + PAIR).is(5, "moves", 0, 6).is(6, "print", 0).say("x").is(-4, "adds").say("abc");
        edge.stays(1, "fault", 0).stays(2, "count", 0).stays(6, "string", 0, 0).stays(0, "string", 0, 3).stays(3, "term", 0, 0, 0).stays(1, "letter", 0, 0)
            .stays(0, "way", 0).stays(0, "at", 6).stays(0, "entry", 0, 0).stays(1, "row", 0, 1, 0).stays(0, "line", 0, 0).stays(6, "address", 0, 0)
            .stays(0, "head", 0, 0).stays('a', "octet", 0).stays(0, "rebuilt", 0).stays(1, "having", 0, -1).stays(3, "sharing", 0, 2).stays(0, "alike", 0, 1)
            .stays(1, "common", 0, 1, 0).stays(1, "nearest", 0).stays(2, "senses").stays(1, "beside", 1, 0, -1).stays(1, "often", 0).stays(1, "most", 0)
            .stays(1, "apart", 0).stays(3, "cover").stays(4, "would", 3, 2, 1).stays(2, "gather", 3, -1).stays(0, "lost", 0).stays(2, "chain", 0, 2)
            .stays(1, "groups").stays(0, "longest").stays(1, "shown", 0, 0).stays(0, "twins", 0).stays(0, "rarest", 0).stays(1, "crossed", 0, 1).stays(1, "shared", 3);
    }
}
