import java.util.ArrayList;
import java.util.List;

/** The boundary cases that the document's 'Terms' name, with answers worked out by hand. */
final class EdgesOfTerms {
    private static final int NONE = Edge.NONE;
    static final String[] KEYS = {"law", "see", "string", "place", "thing", "part", "act", "agent", "form",
        "plain", "whole", "near", "not", "via", "back"};
    static final String[] ROLES = {"place", "thing", "part", "act", "agent", "form"};

    /** STRINGS of one act each, a for the first one and so on, with ADDRESSES from first on. */
    static String strings(int first, int count) {
        StringBuilder text = new StringBuilder();
        for (int i = 0; i < count; i++) {
            text.append("string ").append(first + i).append(":act ").append((char) ('a' + i)).append(";");
        }
        return text.toString();
    }

    /** Sees of a for b, b for c and so on. */
    static String sees(int count) {
        StringBuilder text = new StringBuilder();
        for (int i = 0; i < count; i++) {
            text.append("see ").append((char) ('a' + i)).append(" ").append((char) ('b' + i)).append(";");
        }
        return text.toString();
    }

    private static Edge terms(String quote) {
        return Edge.terms(quote);
    }

    static void all() {
        linesAndTerms();
        words();
        howManyStrings();
        howManySees();
        laws();
        tokens();
        firstOfSeveral();
        cantStand();
        outOfBounds();
        again();
        tooMany();
        falls();
        used();
        whichLead();
        plainRows();
        wholeRows();
        nearRows();
        doubles();
        order();
        lines();
        heads();
        printed();
        senses();
        acts();
        latestTen();
        refused();
        withoutText();
    }

    // ---- I ----

    private static void linesAndTerms() {
        String quote = "TEXT: {LINE ;}.";
        terms(quote).fine(0, "");
        terms(quote).fine(0, " \n ");
        terms(quote).fine(1, "law act near;");
        terms(quote).fine(2, "law act near;see a b;");
        terms(quote).faulty(1, "^;");
        terms(quote).faulty(1, "law act near;^;");
        terms(quote).faulty(1, "law act near^");
        quote = "LINE: law ROLE WAY | see W W | string N : TERM {, TERM}.";
        terms(quote).faulty(1, "^act near;");
        terms(quote).faulty(1, "law ^near;");
        terms(quote).faulty(1, "law act ^;");
        terms(quote).faulty(1, "law act near ^near;");
        terms(quote).faulty(1, "see ^;");
        terms(quote).faulty(1, "see a^;");
        terms(quote).faulty(1, "see a b ^c;");
        terms(quote).faulty(1, "string ^:act a;");
        terms(quote).faulty(1, "string 1 ^act a;");
        terms(quote).faulty(1, "string 1 ^1:act a;");
        terms(quote).faulty(1, "string 1^;");
        terms(quote).faulty(1, "string 1^,");
        terms(quote).faulty(1, "string 1:^;");
        terms(quote).faulty(1, "string 1:^,act a;");
        terms(quote).faulty(1, "string 1:act a,^;");
        terms(quote).faulty(1, "string 1:act a,^,act a;");
        terms(quote).faulty(1, "string 1:act a ^act a;");
        quote = "ROLE: place | thing | part | act | agent | form (0 .. 5).";
        Edge roles = terms(quote).text("string 1:place a,thing a,part a,act a,agent a,form a;");
        for (int i = 0; i < 6; i++) roles.is(i, "term", 0, i, 0);
        quote = "WAY: plain | whole | near (0, 1, 2; plain without).";
        terms(quote).text("law place plain;law thing whole;law part near;").each("way", 0, 0, 1, 2, 0, 0, 0);
        terms(quote).text("law act plain;law agent whole;law form near;").each("way", 0, 0, 0, 0, 0, 1, 2);
        quote = "TERM: [not] ROLE W [via W] [back W].";
        terms(quote).text("string 1:act a,not act b,act c via dd,act e back fff,not act g via h back ii;")
            .is(1, "term", 0, 0, 1).is(0, "term", 0, 0, 3).is(0, "term", 0, 0, 4)
            .is(0, "term", 0, 1, 1).is(0, "term", 0, 1, 3).is(0, "term", 0, 1, 4)
            .is(1, "term", 0, 2, 1).is(2, "term", 0, 2, 3).is(0, "term", 0, 2, 4)
            .is(1, "term", 0, 3, 1).is(0, "term", 0, 3, 3).is(3, "term", 0, 3, 4)
            .is(0, "term", 0, 4, 1).is(1, "term", 0, 4, 3).is(2, "term", 0, 4, 4);
        terms(quote).faulty(1, "string 1:act ^not a;");
        terms(quote).faulty(1, "string 1:not ^not act a;");
        terms(quote).faulty(1, "string 1:not ^a;");
        terms(quote).faulty(1, "string 1:act a back b ^via c;");
        terms(quote).faulty(1, "string 1:act a via b ^via c;");
        terms(quote).faulty(1, "string 1:act a back b ^back c;");
        terms(quote).faulty(1, "string 1:act a via^;");
        terms(quote).faulty(1, "string 1:act a back^,act b;");
    }

    /** The five places of a TEXT in which a word can stand. */
    private static final String[] PLACES = {"see ^@ b;", "see b ^@;", "string 1:act ^@;", "string 1:act b via ^@;", "string 1:act b back ^@;"};

    private static void words() {
        String quote = "W: 1 to 7 letters, none of the words told here.";
        for (String place : PLACES) {
            String plain = place.replace("^", "");
            for (String word : new String[] {"a", "z", "abcdefg", "zzzzzzz", "la", "laws", "stringa", "no", "nots", "viaa", "bac", "n"}) {
                terms(quote).fine(1, plain.replace("@", word));
            }
            for (String word : new String[] {"abcdefgh", "lawlawla", "zzzzzzzzzzzzzzz"}) {
                terms(quote).faulty(1, place.replace("@", word));
            }
            for (String key : KEYS) terms(quote).faulty(1, place.replace("@", key));
            terms(quote).faulty(1, place.replace("@", ";"));
        }
        terms(quote).text("string 1:act abcdefg,act z;").is(7, "letter", 0, 6).is(26, "letter", 1, 0).is(0, "letter", 1, 1);
        terms(quote).text("string 1:act a via abcdefg back z;").is(7, "term", 0, 0, 3).is(1, "term", 0, 0, 4);
    }

    private static void howManyStrings() {
        String quote = "12 STRINGS, numbered as they stand";
        StringBuilder falling = new StringBuilder();
        for (int i = 0; i < 12; i++) falling.append("string ").append(40 - i).append(":act a;");
        Edge edge = terms(quote).fine(12, falling.toString()).is(12, "count", 0);
        for (int s = 0; s < 12; s++) edge.is(40 - s, "string", s, 0);
        edge.is(-2, "string", 12, 0);
        terms(quote).fine(11, strings(0, 11)).is(11, "count", 0);
        terms(quote).faulty(4, strings(0, 12) + "^string 12:act a;");
        quote = "with an ADDRESS N (0 .. 999), no two alike";
        terms(quote).text("string 0:act a;string 999:act a;").is(0, "string", 0, 0).is(999, "string", 1, 0);
        terms(quote).faulty(2, "string ^1000:act a;");
        terms(quote).faulty(1, "string ^-1:act a;");
        terms(quote).faulty(3, "string 0:act a;string ^0:act b;");
        terms(quote).faulty(3, "string 999:act a;string 0:act a;string ^999:act b;");
        quote = "6 TERMS each, whose ROLES don't fall";
        terms(quote).text("string 1:act a,act b,act c,act d,act e,act f;").is(6, "string", 0, 1).is(5, "term", 0, 5, 2);
        terms(quote).faulty(4, "string 1:act a,act b,act c,act d,act e,act f,^act g;");
        terms(quote).text("string 1:act a;").is(1, "string", 0, 1).is(-2, "term", 0, 1, 0);
        terms(quote).fine(2, "string 1:form a,form a;string 2:place a,place a;");
        for (int role = 1; role < 6; role++) {
            terms(quote).fine(1, "string 1:" + ROLES[role - 1] + " a," + ROLES[role] + " a," + ROLES[role] + " a;");
            terms(quote).faulty(5, "string 1:" + ROLES[role] + " a,^" + ROLES[role - 1] + " a;");
        }
    }

    private static void howManySees() {
        String quote = "12 sees: the first W of each is told so but once, and from the second one sees don't lead (on and on) to it";
        terms(quote).fine(12, sees(12)).is(12, "count", 2);
        terms(quote).fine(11, sees(11)).is(11, "count", 2);
        terms(quote).faulty(4, sees(12) + "^see n o;");
        terms(quote).faulty(3, "see a b;see ^a c;");
        terms(quote).faulty(3, "see a b;see c d;see ^a b;");
        terms(quote).fine(2, "see a c;see b c;");
        terms(quote).fine(2, "see b c;see a b;");
        terms(quote).faulty(3, "see a ^a;");
        terms(quote).faulty(3, "see a b;see b ^a;");
        // On and on over all that can be told ahead of it: eleven.
        terms(quote).faulty(3, sees(11) + "see l ^a;");
        terms(quote).faulty(3, sees(11) + "see l ^f;");
        terms(quote).fine(12, sees(11) + "see l z;");
        terms(quote).fine(12, sees(11) + "see z a;");
    }

    private static void laws() {
        String quote = "one law for each ROLE.";
        StringBuilder text = new StringBuilder();
        for (String role : ROLES) text.append("law ").append(role).append(" near;");
        terms(quote).fine(6, text.toString()).each("way", 0, 2, 2, 2, 2, 2, 2);
        for (String role : ROLES) {
            terms(quote).faulty(3, text + "law ^" + role + " near;");
            terms(quote).faulty(3, "law " + role + " plain;law ^" + role + " plain;");
        }
    }

    private static void tokens() {
        String quote = "TOKENS, blanks (32, 10) aside, the longest: words (a .. z), numbers (digits), else single bytes.";
        terms(quote).fine(1, "string1:act a,act b;");
        terms(quote).fine(1, "\n string \n\n 1\n:\nact\na\n,\nact b\n;\n");
        terms(quote).fine(1, "string 1:act a via b back c;");
        terms(quote).faulty(1, "^lawact near;");
        terms(quote).faulty(1, "law ^actnear;");
        terms(quote).faulty(1, "string ^x1:act a;");
        terms(quote).faulty(1, "string 1^x:act a;");
        terms(quote).faulty(1, "string 1 ^0:act a;");
        terms(quote).faulty(1, "string 1:act a^1;");
        terms(quote).faulty(1, "string 1:act ^1a;");
        terms(quote).faulty(1, "string 1:act a ^bcdefghi;");
        terms(quote).text("string 00000012:act az;").is(12, "string", 0, 0).is(26, "letter", 0, 1);
        // Every other byte is a TOKEN of its own that is none.
        for (int octet = 0; octet < 256; octet++) {
            boolean known = octet == 32 || octet == 10 || octet == '^' || "abcdefghijklmnopqrstuvwxyz0123456789".indexOf(octet) >= 0;
            if (known) continue;
            terms(quote).faulty(1, "law act near;^" + (char) octet + "law part near;");
            if (octet != ';' && octet != ',') terms(quote).faulty(1, "string 1:act a^" + (char) octet + ";");
        }
    }

    private static void firstOfSeveral() {
        String quote = "FAULTS, of several the one whose first byte (a TOKEN's; the end's) is least, of one byte the least number";
        terms(quote).faulty(5, "string 1:form a,^act a;string 1:act a;!");
        terms(quote).faulty(3, "string 1:act a;string ^1:form a,act a;");
        terms(quote).faulty(2, "string ^1000:form a,act a;law law");
        terms(quote).faulty(4, strings(0, 12) + "^string 1:act a;");
        terms(quote).faulty(4, sees(12) + "^see a a;");
        String six = "string 1:form a,form a,form a,form a,form a,form a,";
        terms(quote).faulty(4, six + "^act a;");
        terms(quote).faulty(4, six + "^not act a;");
        terms(quote).faulty(4, six + "^not 7;");
        terms(quote).faulty(1, six + "^near a;");
        terms(quote).faulty(1, six + "^a;");
        terms(quote).faulty(1, six + "^;");
        terms(quote).faulty(1, six + "^");
        terms(quote).faulty(1, "string 1:act abcdefg,act ^abcdefgh,place a;");
        // The end: right behind the TAPE's last byte.
        terms(quote).faulty(1, "law^");
        terms(quote).faulty(1, "law ^");
        terms(quote).faulty(1, "law \n \n^");
        terms(quote).faulty(1, "string 1:act a^");
        String head = "string 1:act a";
        terms(quote).faulty(1, head + " ".repeat(1200 - head.length()) + "^");
        terms(quote).fine(1, head + " ".repeat(1199 - head.length()) + ";");
        terms(quote).faulty(1, head + " ".repeat(1199 - head.length()) + ",^");
        terms(quote).faulty(1, " ".repeat(1199) + "^;");
    }

    private static void cantStand() {
        String quote = "1 a TOKEN that is none, or can't stand there (a word of more letters, too).";
        terms(quote).faulty(1, "^!");
        terms(quote).faulty(1, " ^A");
        terms(quote).faulty(1, "^abcdefgh");
        terms(quote).faulty(1, "law ^abcdefgh near;");
        terms(quote).faulty(1, "law act ^abcdefgh;");
        terms(quote).faulty(1, "string ^abcdefgh:act a;");
        terms(quote).faulty(1, "string 1:^abcdefgh a;");
        terms(quote).faulty(1, "string 1:act a ^abcdefgh;");
        terms(quote).faulty(1, "see abcdefg ^abcdefgh;");
        terms(quote).faulty(1, "string 1:act ^" + "a".repeat(1187));
        terms(quote).faulty(1, "^" + "a".repeat(1200));
        terms(quote).faulty(1, "^" + "1".repeat(1200));
        terms(quote).faulty(1, "^" + "!".repeat(1200));
        // No number and no byte stands for a word of the text's own, whatever its value.
        for (String place : new String[] {"^@ act near;", "law ^@ near;", "law act ^@;", "string 1:^@ a;", "string 1:not ^@ a;", "string 1:act a ^@ b;"}) {
            for (int value = 0; value < 16; value++) {
                terms(quote).faulty(1, place.replace("@", String.valueOf(value)));
                if (value != 10) terms(quote).faulty(1, place.replace('@', (char) value));
            }
        }
        // Which of the text's own words can stand where: at the beginning, for a ROLE, for a WAY.
        for (int key = 0; key < KEYS.length; key++) {
            if (key > 2) terms(quote).faulty(1, "^" + KEYS[key] + " a b;");
            boolean role = key >= 3 && key <= 8;
            if (!role) terms(quote).faulty(1, "law ^" + KEYS[key] + " near;");
            if (!role && key != 12) terms(quote).faulty(1, "string 1:^" + KEYS[key] + " a;");
            if (!role) terms(quote).faulty(1, "string 1:not ^" + KEYS[key] + " a;");
            if (key < 9 || key > 11) terms(quote).faulty(1, "law act ^" + KEYS[key] + ";");
            if (key < 13) terms(quote).faulty(1, "string 1:act a ^" + KEYS[key] + " b;");
        }
    }

    private static void outOfBounds() {
        String quote = "2 a number out of its bounds.";
        terms(quote).fine(1, "string 999:act a;");
        for (String number : new String[] {"1000", "1001", "9999", "2147483647", "2147483648", "4294967295", "4294967296", "4294967301",
            "9223372036854775808", "18446744073709551616", "18446744073709551621", "0001000", "1".repeat(1100)}) {
            terms(quote).faulty(2, "string ^" + number + ":act a;");
        }
        terms(quote).text("string " + "0".repeat(1100) + "999:act a;").is(999, "string", 0, 0);
        terms(quote).text("string " + "0".repeat(1100) + ":act a;").is(0, "string", 0, 0);
        // Where no number can stand it is not out of bounds.
        terms(quote).faulty(1, "law ^1000 near;");
        terms(quote).faulty(1, "string 1:act ^1000;");
        Edge edge = terms(quote).faultyAdds(2, "^1000:act a;").adds(0, "999:act a;");
        edge.is(999, "string", 0, 0);
    }

    private static void again() {
        String quote = "3 a law of that ROLE again (at it)";
        terms(quote).faulty(3, "law act near;law ^act whole;");
        terms(quote).faulty(3, "law act near;law form near;law ^act ");
        terms(quote).faulty(1, "law act near;law ^near act;");
        quote = "a see of that W again (at it)";
        terms(quote).faulty(3, "see a b;see ^a c;");
        terms(quote).faulty(3, "see a b;see ^a a;");
        terms(quote).faulty(3, "see a b;see ^a");
        terms(quote).fine(2, "see a b;see c b;");
        quote = "a second W that leads to the first, or is it (at it)";
        terms(quote).faulty(3, "see ab ^ab;");
        terms(quote).fine(1, "see ab abc;");
        terms(quote).faulty(3, "see a b;see b c;see c ^a;");
        terms(quote).faulty(3, "see b c;see a b;see c ^a;");
        terms(quote).faulty(3, "see a b;see b c;see c ^b;");
        terms(quote).fine(3, "see a b;see b c;see d a;");
        quote = "an ADDRESS again (at it).";
        terms(quote).faulty(3, "string 7:act a;string ^7:act b;");
        terms(quote).faulty(3, "string 7:act a;string ^007:act b;");
        terms(quote).faulty(3, strings(0, 11) + "string ^10:act z;");
        terms(quote).fine(2, "string 7:act a;string 70:act a;");
        terms(quote).text("string 7:act a;").faultyAdds(3, "^7:act b;").is(7, "moves", 0, 8).adds(1, "7:act b;");
    }

    private static void tooMany() {
        String quote = "4 a 13th string, see (at the word)";
        terms(quote).faulty(4, strings(0, 12) + "^string 99:act a;");
        terms(quote).faulty(4, strings(0, 12) + sees(12) + "^string");
        terms(quote).faulty(4, strings(0, 12) + sees(12) + "^see");
        terms(quote).fine(24, strings(0, 12) + sees(12));
        terms(quote).fine(25, strings(0, 12) + sees(12) + "law act near;");
        quote = "a seventh TERM (at its first TOKEN).";
        String six = "string 1:act a,act b,act c,not act d,act e,act f via x back y";
        terms(quote).fine(1, six + ";");
        terms(quote).faulty(4, six + ",^act");
        terms(quote).faulty(4, six + ",^not");
        terms(quote).faulty(4, six + ", \n^act g;");
        terms(quote).faulty(4, six + ",^form g,form h;");
    }

    private static void falls() {
        String quote = "5 a ROLE that falls (at it).";
        terms(quote).faulty(5, "string 1:form a,^place a;");
        terms(quote).faulty(5, "string 1:form a,not ^place a;");
        terms(quote).faulty(5, "string 1:place a,form a,^agent");
        terms(quote).faulty(5, "string 1:act a,agent a,agent a,agent a,agent a,^act a;");
        terms(quote).fine(2, "string 1:form a;string 2:place a;");
    }

    private static void used() {
        String quote = "USED of a W: where sees lead from it, on and on; itself without one.";
        // Over all 12 sees a leads to m.
        terms(quote).text(sees(12) + "string 1:act a;").is(1, "count", 3).is(13, "letter", 0, 0).find(0, "a").find(0, "l").find(0, "m").find(NONE, "n");
        terms(quote).text("see l m;see k l;see j k;see i j;see h i;see g h;see f g;see e f;see d e;see c d;see b c;see a b;string 1:act a;")
            .is(13, "letter", 0, 0);
        terms(quote).text("string 1:act a;").is(1, "letter", 0, 0);
        quote = "The word of a TERM, of its joins (via, back) is USED.";
        terms(quote).text("see a abc;see b ab;see c abcdefg;string 1:act x,act a via b back c,act y;")
            .is(0, "term", 0, 1, 2).is(2, "term", 0, 1, 3).is(7, "term", 0, 1, 4)
            .lines("abc, x: y 1", "x: ab abc. y 1", "y, abc abcdefg, x 1");
        quote = "WORDS: all that are told in TERMS (USED ones, no joins), each once, in order (letter by letter, the shorter one first), numbered from 0.";
        Edge edge = terms(quote).text("string 1:act b,act abc,act ab via c back d,act a;string 2:not act az,act b;").is(5, "count", 3);
        String[] words = {"a", "ab", "abc", "az", "b"};
        for (int word = 0; word < 5; word++) {
            for (int i = 0; i < 7; i++) edge.is(i < words[word].length() ? words[word].charAt(i) - 96 : 0, "letter", word, i);
            edge.find(word, words[word]);
        }
        edge.is(-2, "letter", 5, 0);
        terms(quote).text("see b a;string 1:act a,act b;string 2:form b;").is(1, "count", 3);
    }

    // ---- II ----

    private static void whichLead() {
        String quote = "for each TERM of each STRING that has no not";
        terms(quote).text("string 1:not act a,not act b;string 2:not form c;").is(0, "count", 4).is(0, "count", 5).is(0, "count", 6).is(3, "count", 3)
            .is(NONE, "entry", 0, 0);
        terms(quote).text("string 1:not act a,act b;").is(1, "count", 4).lines("b, a 1");
        terms(quote).text("string 1:act a,not act b;").lines("a: b 1");
        terms(quote).text("string 1:act a,act b;").is(2, "count", 4);
        terms(quote).text("string 1:not act a;").is(0, "lead", 0, 0, 1).lines("a 1").is(1, "lead", 0, 0, 0).lines();
        quote = "by the WAY of its ROLE";
        terms(quote).text("law act whole;law agent near;string 1:part a,act b,agent c,form d;")
            .lines("a: b. c. d 1", "b: a. c. d 1", "c, b, a, d 1", "d, c, b, a 1");
    }

    private static void plainRows() {
        String quote = "plain: ABOVE the TERMS ahead of it, the nearest first; BELOW those behind it, in order.";
        Edge edge = terms(quote).text("string 1:act a,act b,act c,act d,act e,act f;").lines("a: b. c. d. e. f 1", "b, a: c. d. e. f 1",
            "c, b, a: d. e. f 1", "d, c, b, a: e. f 1", "e, d, c, b, a: f 1", "f, e, d, c, b, a 1");
        for (int k = 0; k < 6; k++) edge.is(k, "entry", k, 3).is(5 - k, "entry", k, 4);
        edge.is(NONE, "row", 0, 0, 0).is(5, "row", 0, 1, 4).is(NONE, "row", 0, 1, 5).is(0, "row", 5, 0, 4).is(NONE, "row", 5, 0, 5).is(NONE, "row", 5, 1, 0);
        terms(quote).text("string 1:act a;").lines("a 1").is(0, "entry", 0, 3).is(0, "entry", 0, 4);
        terms(quote).text("string 1:act a,act b;").lines("a: b 1", "b, a 1");
    }

    private static void wholeRows() {
        String quote = "whole: ABOVE none; BELOW all others, in order.";
        Edge edge = terms(quote).text("law act whole;string 1:act a,act b,act c,act d,act e,act f;").lines("a: b. c. d. e. f 1", "b: a. c. d. e. f 1",
            "c: a. b. d. e. f 1", "d: a. b. c. e. f 1", "e: a. b. c. d. f 1", "f: a. b. c. d. e 1");
        for (int k = 0; k < 6; k++) edge.is(0, "entry", k, 3).is(5, "entry", k, 4).is(NONE, "row", k, 0, 0).is(NONE, "row", k, 1, 5);
        edge.is(0, "row", 5, 1, 0).is(4, "row", 5, 1, 4).is(1, "row", 0, 1, 0).is(5, "row", 0, 1, 4);
        terms(quote).text("law act whole;string 1:act a;").lines("a 1");
        terms(quote).text("law act whole;string 1:act a,act b;").lines("a: b 1", "b: a 1");
    }

    private static void nearRows() {
        String quote = "near: ABOVE those ahead of it, the nearest first, then those behind it, in order; BELOW none.";
        Edge edge = terms(quote).text("law act near;string 1:act a,act b,act c,act d,act e,act f;").lines("a, b, c, d, e, f 1", "b, a, c, d, e, f 1",
            "c, b, a, d, e, f 1", "d, c, b, a, e, f 1", "e, d, c, b, a, f 1", "f, e, d, c, b, a 1");
        for (int k = 0; k < 6; k++) edge.is(5, "entry", k, 3).is(0, "entry", k, 4).is(NONE, "row", k, 1, 0).is(NONE, "row", k, 0, 5);
        edge.is(4, "row", 5, 0, 0).is(0, "row", 5, 0, 4).is(1, "row", 0, 0, 0).is(5, "row", 0, 0, 4);
        terms(quote).text("law act near;string 1:act a;").lines("a 1");
        terms(quote).text("law act near;string 1:act a,act b;").lines("a, b 1", "b, a 1");
    }

    private static void doubles() {
        String quote = "DOUBLES: then in each row (ABOVE, BELOW) a TERM whose word is that of the one right ahead of it";
        // Of two that follow one another the later one of the row goes: seen by their joins.
        terms(quote).text("string 1:not act b,act c,not act a via x,not act a via y,not act d;").lines("c, b: x a. d 1").is(8, "lost", 0).is(1, "entry", 0, 5);
        terms(quote).text("string 1:not act d,not act a back x,not act a back y,act c;").lines("c, a y, d 1").is(2, "lost", 0);
        terms(quote).text("law act near;string 1:not act a back x,act c,not act a back y;").lines("c, a x 1").is(4, "lost", 0);
        terms(quote).text("law act whole;string 1:not act a via x,act c,not act a via y;").lines("c: x a 1").is(4, "lost", 0);
        // Not of the other row, not of one farther ahead.
        terms(quote).text("string 1:not act a,act c,not act a;").lines("c, a: a 1").is(0, "lost", 0);
        terms(quote).text("string 1:act c,not act a,not act b,not act a;").lines("c: a. b. a 1").is(0, "lost", 0);
        terms(quote).text("see z a;string 1:act c,not act a,not act z;").lines("c: a 1").is(4, "lost", 0);
        quote = "(of the first one: that of the LEAD) goes";
        terms(quote).text("string 1:act a,not act a,not act b;").lines("a: b 1").is(2, "lost", 0);
        terms(quote).text("string 1:not act b,not act a,act a;").lines("a, b 1").is(2, "lost", 0);
        terms(quote).text("string 1:not act a,act a,not act a;").lines("a 1").is(5, "lost", 0).is(2, "entry", 0, 5);
        terms(quote).text("string 1:act a,not act b,not act a;").lines("a: b. a 1").is(0, "lost", 0);
        terms(quote).text("law act whole;string 1:not act a,act a,not act b;").lines("a: b 1").is(1, "lost", 0);
        terms(quote).text("law act near;string 1:not act a,act a,not act a;").lines("a 1").is(5, "lost", 0);
        quote = "from the first one on (what is ahead then).";
        terms(quote).text("string 1:act a,not act a,not act a,not act b,not act b,not act a;").lines("a: b. a 1").is(0b010110, "lost", 0).is(3, "string", 0, 3);
        terms(quote).text("string 1:not act a,not act b,not act b,not act a,not act a,act a;").lines("a, b, a 1").is(0b011010, "lost", 0);
        Edge edge = terms(quote).text("string 1:act a,act a,act a,act a,act a,act a;").lines("a 1").is(30, "string", 0, 3);
        for (int k = 0; k < 6; k++) edge.is(63 ^ 1 << k, "lost", k).is(5, "entry", k, 5).is(0, "entry", k, 3).is(0, "entry", k, 4);
        edge.is(0, "law", 3, 2).lines("a 1").is(30, "string", 0, 3).is(2, "law", 3, 1).lines("a 1").is(30, "string", 0, 3);
        // near: the two parts are one row; where they meet a DOUBLE goes, the LEAD is ahead of the first one alone.
        terms(quote).text("law act near;string 1:not act b,act a,not act a,not act b;").lines("a, b, a, b 1").is(0, "lost", 0);
        terms(quote).text("law act near;string 1:not act b,not act a,act a,not act b;").lines("a, b 1").is(0b1010, "lost", 0);
    }

    private static Edge orderOf(String quote, String text, int... strings) {
        Edge edge = terms(quote).text(text);
        for (int k = 0; k < strings.length; k++) edge.is(strings[k], "entry", k, 0);
        return edge.is(strings.length, "count", 4);
    }

    private static void order() {
        String quote = "ORDER of ENTRIES: by LEADS' words";
        orderOf(quote, "string 1:act b;string 2:act a;", 1, 0);
        orderOf(quote, "string 1:act abcdefg;string 2:act abcdef;string 3:act z;string 4:act abcdeff;", 1, 3, 0, 2);
        // Whatever the rest of them is.
        orderOf(quote, "string 1:not act a,act y;string 2:act x,not act z;", 1, 0);
        quote = "then ABOVE word by word (a row that ends is ahead)";
        orderOf(quote, "string 1:not act b,act x;string 2:not act a,act x;", 1, 0);
        orderOf(quote, "string 1:not act a,act x;string 2:act x;", 1, 0);
        orderOf(quote, "string 1:not act b,not act a,act x;string 2:not act a,act x;", 1, 0);
        orderOf(quote, "string 1:not act a,not act c,act x;string 2:not act z,not act b,act x;", 1, 0);
        orderOf(quote, "string 1:not act c,not act b,act x;string 2:not act a,not act b,act x;", 1, 0);
        orderOf(quote, "string 1:not act b,act x;string 2:not act z,not act a,act x;", 1, 0);
        orderOf(quote, "string 1:not act ab,act x;string 2:not act a,act x;", 1, 0);
        orderOf(quote, "string 1:not act e,not act d,not act c,not act b,not act a,act x;string 2:not act d,not act c,not act b,not act a,act x;", 1, 0);
        // A row ends where BELOW begins: what stands there is not of it.
        orderOf(quote, "string 1:not act b,not act a,act x;string 2:not act a,act x,not act z;", 1, 0);
        orderOf(quote, "string 1:not act z,not act a,act x;string 2:not act a,act x,not act b;", 1, 0);
        orderOf(quote, "string 1:not act z,act x;string 2:act x,not act a;", 1, 0);
        // ABOVE ahead of BELOW.
        orderOf(quote, "string 1:not act a,act x;string 2:act x,not act z;", 1, 0);
        orderOf(quote, "string 1:not act b,act x;string 2:not act a,act x,not act z;", 1, 0);
        quote = "then BELOW likewise";
        orderOf(quote, "string 1:act x,not act b;string 2:act x,not act a;", 1, 0);
        orderOf(quote, "string 1:act x,not act a;string 2:act x;", 1, 0);
        orderOf(quote, "string 1:act x,not act a,not act b;string 2:act x,not act a;", 1, 0);
        orderOf(quote, "string 1:act x,not act b,not act a;string 2:act x,not act a,not act z;", 1, 0);
        orderOf(quote, "string 1:not act a,act x,not act c;string 2:not act a,act x,not act b;", 1, 0);
        orderOf(quote, "string 1:act x,not act b;string 2:act x,not act a,not act z;", 1, 0);
        orderOf(quote, "string 9:act x,not act a;string 1:act x,not act b;", 0, 1);
        quote = "then by ADDRESSES, then by the TERM's place.";
        orderOf(quote, "string 10:act x;string 9:act x;string 100:act x;string 0:act x;", 3, 1, 0, 2);
        Edge edge = orderOf(quote, "string 2:act x,act x;string 1:act x,act x,act x;", 1, 1, 1, 0, 0);
        int[] places = {0, 1, 2, 0, 1};
        for (int k = 0; k < 5; k++) edge.is(places[k], "entry", k, 1);
        orderOf(quote, "string 2:act x;string 1:act x;", 1, 0).is(2, "moves", 0, 0).is(0, "entry", 0, 0).is(1, "entry", 1, 0);
    }

    private static void lines() {
        String quote = "LINES: ENTRIES whose LEAD, ABOVE, BELOW have the same words are one LINE, in ORDER, numbered from 0.";
        // Joins, ROLES, WAYS aside.
        terms(quote).text("string 1:not act a,act b,not act c;string 2:not act a via x back y,act b via z,not act c back v;").lines("b, a: c 1,2");
        terms(quote).text("string 1:act a;string 2:form a;").lines("a 1,2");
        terms(quote).text("law form whole;string 1:act a,not act b;string 2:form a,not form b;").lines("a: b 1,2").is(2, "line", 0, 1);
        terms(quote).text("string 1:act a,act a,not act b;string 2:act a,not act b;").lines("a: b 1,2").is(3, "line", 0, 1).is(2, "line", 0, 2);
        // One of the three differs.
        terms(quote).text("string 1:act a;string 2:act b;").lines("a 1", "b 2");
        terms(quote).text("string 1:not act a,act c;string 2:not act b,act c;").lines("c, a 1", "c, b 2");
        terms(quote).text("string 1:act c;string 2:not act b,act c;").lines("c 1", "c, b 2");
        terms(quote).text("string 1:act c,not act a;string 2:act c,not act b;").lines("c: a 1", "c: b 2");
        terms(quote).text("string 1:act c;string 2:act c,not act b;").lines("c 1", "c: b 2");
        terms(quote).text("string 1:not act b,act c;string 2:act c,not act b;").lines("c: b 2", "c, b 1");
        terms(quote).text("string 1:not act a,act c,not act b;string 2:not act b,not act a,act c;").lines("c, a: b 1", "c, a, b 2");
        Edge edge = terms(quote).text("string 1:act b;string 2:act a;string 3:act b;");
        edge.is(0, "entry", 0, 2).is(1, "entry", 1, 2).is(1, "entry", 2, 2).is(0, "line", 0, 0).is(1, "line", 1, 0).is(2, "count", 5);
        terms(quote).text(strings(0, 12).replaceAll("act .", "act a")).is(12, "count", 4).is(1, "count", 5).is(12, "line", 0, 1).is(12, "line", 0, 2);
    }

    private static void heads() {
        String quote = "HEADS: the words that lead, in order, each once, numbered from 0.";
        terms(quote).text("string 1:act b,not act a,act c;string 2:act b;string 3:not act d;").is(2, "count", 6).is(1, "head", 0, 0).is(2, "head", 1, 0)
            .is(-2, "head", 2, 0);
        terms(quote).text("string 1:not act a;").is(0, "count", 6).is(-2, "head", 0, 0);
    }

    private static void printed() {
        String quote = "PRINTED is a LINE by its first ENTRY: the LEAD's word; of each one ABOVE \", \", its word, and, if it has a back, a blank and that";
        terms(quote).text("string 0:act a via x back y;").prints(0, "a 0");
        terms(quote).text("string 1:not act a via x back y,not act b via z,not act c back v,not act d,act e;").prints(0, "e, d, c v, b, a y 1");
        // The first ENTRY is the one with the least ADDRESS, whatever its number.
        terms(quote).text("string 5:not act a back x,act b;string 4:not act a back y,act b;").prints(0, "b, a y 4,5")
            .is(5, "moves", 0, 3).prints(0, "b, a x 3,4");
        terms(quote).text("string 5:not act a back x,act b;string 4:not act a,act b;").prints(0, "b, a 4,5");
        quote = "if there is one BELOW \": \", and of each one BELOW (\". \" between two) its via and a blank, if it has one, and its word";
        terms(quote).text("string 1:act e,not act a via x back y;").prints(0, "e: x a 1");
        terms(quote).text("string 1:act e,not act a via x back y,not act b via z,not act c back v,not act d;").prints(0, "e: x a. z b. c. d 1");
        terms(quote).text("string 1:not act a via x,act e;").prints(0, "e, a 1");
        terms(quote).text("string 1:not act a via x back y,act e via v back w,not act b via z back y;").prints(0, "e, a y: z b 1");
        terms(quote).text("string 5:act b,not act a via x;string 4:act b,not act a;").prints(0, "b: a 4,5");
        quote = "then a blank and the ADDRESSES of its ENTRIES, rising, each once, a comma between.";
        terms(quote).text("string 0:act a;").prints(0, "a 0");
        terms(quote).text("string 999:act a;string 100:act a;string 99:act a;string 10:act a;string 9:act a;string 0:act a;string 909:act a;string 990:act a;")
            .prints(0, "a 0,9,10,99,100,909,990,999");
        terms(quote).text("string 7:act a,act a;string 6:act a,act a,act a;").prints(0, "a 6,7");
        // The longest LINE: seven letters everywhere, 12 ADDRESSES of three digits.
        StringBuilder text = new StringBuilder("see r rrrrrrr;");
        for (int s = 0; s < 12; s++) {
            text.append("string ").append(100 + s).append(":act aaaaaaa");
            String join = s == 0 ? " via r" : "";
            for (int i = 1; i < 6; i++) text.append(",not act ").append(String.valueOf((char) ('a' + i)).repeat(s == 0 ? 7 : 1)).append(join);
            text.append(";");
        }
        for (int i = 1; i < 6; i++) text.append("see ").append((char) ('a' + i)).append(" ").append(String.valueOf((char) ('a' + i)).repeat(7)).append(";");
        terms(quote).text(text.toString()).prints(0, "aaaaaaa: rrrrrrr bbbbbbb. rrrrrrr ccccccc. rrrrrrr ddddddd. rrrrrrr eeeeeee. rrrrrrr fffffff "
            + "100,101,102,103,104,105,106,107,108,109,110,111");
    }

    // ---- III ----

    private static void senses() {
        String quote = "SENSE of a STRING: its ROLES with words, each two once, whatever their order.";
        terms(quote).text("string 1:act a,act b;string 2:act b,act a;string 3:act b,act b,act a,act a;string 4:act a,agent b;string 5:act a,act b,agent b;")
            .is(1, "alike", 0, 1).is(1, "alike", 1, 2).is(0, "alike", 0, 3).is(0, "alike", 0, 4).is(3, "senses").is(2, "common", 0, 2, 1)
            .is(3, "common", 3, 4, 1).is(2, "common", 3, 4, 0);
        terms(quote).text("see c a;string 1:act a;string 2:not act c via x back y;").is(2, "alike", 0, 1).is(1, "senses");
    }

    // ---- IV ----

    static final String ACTED = "law form near;see z a;string 5:act a,act b via p back q;string 7:not act b,form c;string 9:form a,form z;";

    private static void acts() {
        String quote = "ACTS: adds(), drops(), law() to another WAY, lead(), swaps() of two TERMS, see() and forget(), moves() to another one.";
        Edge edge = terms(quote).text(ACTED).is(0, "count", 7);
        for (int s = 0; s < 3; s++) edge.undone(2, "drops", s);
        edge.undone(0, "law", 3, 1).undone(0, "law", 3, 2).undone(2, "law", 5, 0).undone(2, "law", 5, 1);
        edge.undone(1, "lead", 0, 0, 0).undone(0, "lead", 1, 0, 1);
        edge.undone(1, "swaps", 0, 0, 1).undone(1, "swaps", 0, 1, 0);
        edge.undone(2, "see", 0, 1).undone(2, "see", 2, 0).undone(0, "forget", 0);
        edge.undone(5, "moves", 0, 6).undone(9, "moves", 2, 0).undone(7, "moves", 1, 999);
        edge.say("8:act a via z,not form d;").undone(3, "adds");
        // Not to another one: no acts.
        terms(quote).text(ACTED).stays(0, "law", 3, 0).stays(2, "law", 5, 2).stays(1, "lead", 0, 0, 1).stays(0, "lead", 1, 0, 0)
            .stays(5, "moves", 0, 5).is(0, "count", 7);
        // Two TERMS that are the same still change places.
        terms(quote).text("string 1:act a,act a;").is(1, "swaps", 0, 0, 1).is(1, "count", 7);
    }

    private static void latestTen() {
        String quote = "The latest 10 can be undone one by one.";
        for (int acts = 9; acts <= 12; acts++) {
            Edge edge = terms(quote).text("string 0:act a;");
            for (int i = 1; i <= acts; i++) edge.is(i - 1, "moves", 0, i).is(Math.min(i, 10), "count", 7);
            for (int left = Math.min(acts, 10) - 1; left >= 0; left--) edge.is(left, "undo").is(acts + left - Math.min(acts, 10), "string", 0, 0);
            edge.stays(NONE, "undo").is(Math.max(acts - 10, 0), "string", 0, 0);
        }
        // Undone ones make room again, round and round.
        Edge edge = terms(quote).text("string 0:act a;");
        List<Integer> was = new ArrayList<>();
        int now = 0;
        for (int i = 1; i <= 60; i++) {
            boolean back = i % 7 == 3 || i % 7 == 5 || i > 45;
            if (!back) {
                edge.is(now, "moves", 0, 100 + i);
                was.add(now);
                if (was.size() > 10) was.remove(0);
                now = 100 + i;
            } else if (was.isEmpty()) {
                edge.is(NONE, "undo");
            } else {
                now = was.remove(was.size() - 1);
                edge.is(was.size(), "undo").is(now, "string", 0, 0);
            }
            edge.is(was.size(), "count", 7);
        }
    }

    private static void refused() {
        String quote = "-2 (where nothing else is told): there is no such STRING, TERM, ROLE, WORD, LINE, HEAD, what, number as told; "
            + "ahead of NONE, -3, -5, -6.";
        Edge edge = terms(quote).text(ACTED);
        // Ahead of NONE.
        edge.is(-2, "entry", 99, 6).is(-2, "entry", 99, -1).is(-2, "row", 99, 2, 0).is(-2, "row", 99, 0, -1).is(-2, "row", 0, 2, 99)
            .is(-2, "address", 99, 99).is(-2, "address", -1, 99).is(-2, "beside", 99, 0, 99).is(-2, "beside", 0, 2, 99).is(-2, "beside", -1, 1, 99)
            .is(-2, "gather", 6, 99).is(-2, "gather", -1, 99).is(-2, "chain", 0, 99).is(-2, "chain", 99, 0).is(-2, "chain", 99, 99)
            .is(-2, "forget", -1).is(-2, "nearest", 3).is(-2, "apart", 3);
        edge.say("!").is(-2, "begins", 99).say("a").is(-2, "begins", -2);
        terms(quote).is(-2, "forget", -1).is(-2, "entry", -1, 0).is(-2, "entry", 0, 6).is(-2, "row", 0, 2, 0).is(-2, "row", 0, 0, -1)
            .is(-2, "rebuilt", -1).is(-2, "most", -1).is(-2, "lost", -1).is(-2, "gather", 6, 0);
        // Ahead of -6.
        terms(quote).text(ACTED).stays(-2, "moves", 3, 5).stays(-2, "moves", -1, 5).stays(-2, "swaps", 1, 0, 2).stays(-2, "swaps", 1, -1, 1)
            .stays(-2, "swaps", 3, 0, 1).stays(-2, "see", 3, 3).stays(-2, "see", -1, -1);
        // Ahead of -5.
        terms(quote).text(sees(12) + "string 1:act x,act y;").stays(-2, "see", 0, 2).stays(-2, "see", 2, 0).stays(-2, "see", -1, 0)
            .stays(-2, "see", 2, 2).stays(-5, "see", 0, 1);
    }

    private static void withoutText() {
        String quote = "Without a TEXT there are no STRINGS, sees, WORDS; all WAYS are plain.";
        Edge edge = terms(quote);
        for (int what = 0; what < 10; what++) edge.is(0, "count", what);
        edge.each("way", 0, 0, 0, 0, 0, 0, 0).is(NONE, "forget", 0).find(NONE, "a").is(-2, "letter", 0, 0).is(-2, "string", 0, 0);
        // There are acts without one, too.
        terms(quote).is(0, "law", 0, 2).is(2, "way", 0).is(1, "count", 7).is(0, "undo").is(0, "way", 0);
        terms(quote).adds(0, "5:act a,act b;").lines("a: b 5", "b, a 5").is(1, "see", 0, 1).lines("b 5").is(1, "undo").is(0, "undo").is(0, "count", 0);
        // A faulty one is none.
        terms(quote).faulty(1, "law act near;string 1:act a;see a b^").each("way", 0, 0, 0, 0, 0, 0, 0).is(0, "count", 0).is(0, "count", 2).is(0, "count", 3);
    }
}
