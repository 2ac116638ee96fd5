import java.util.ArrayList;
import java.util.List;

/** For each promise of the document the answers that are due, worked out by hand. */
public final class PromiseTest {
    private static final String CARS = "law agent whole;see autos cars;"
        + "string 10 : place texas, thing cars via in, part doors, act repair via of back by, agent robots;"
        + "string 7 : thing cars, part doors, act repair;string 3 : not place texas, thing autos;";
    // WORDS of CARS: cars 0, doors 1, repair 2, robots 3, texas 4. Its LINES, one ENTRY each:
    private static final String[] CARS_LINES = {
        "cars: doors. repair 7",
        "cars, texas 3",
        "cars, texas: doors. of repair. robots 10",
        "doors, cars: repair 7",
        "doors, cars, texas: of repair. robots 10",
        "repair, doors, cars 7",
        "repair, doors, cars, texas: robots 10",
        "robots: texas. in cars. doors. of repair 10",
        "texas: in cars. doors. of repair. robots 10",
    };

    private static int wrong = 0;
    private static int promise = 0;

    private static void due(String what, long got, long want) {
        if (got == want) return;
        wrong++;
        System.out.println("promise " + promise + ": " + what + " answered " + got + ", due is " + want);
    }

    private static void due(String what, String got, String want) {
        if (got.equals(want)) return;
        wrong++;
        System.out.println("promise " + promise + ": " + what + " is '" + got + "', due is '" + want + "'");
    }

    /** Puts a text behind the TAPE. */
    private static void say(TurnedHeadings x, String text) {
        int before = x.count(8);
        String full = text + " ".repeat((20 - text.length() % 20) % 20);
        for (int i = 0; i < full.length(); i += 20) {
            int[] v = new int[5];
            for (int j = 0; j < 20; j++) v[j / 4] = v[j / 4] << 8 | full.charAt(i + j);
            due("feed", x.feed(v[0], v[1], v[2], v[3], v[4]), before + i + 20);
        }
        due("end", x.end(before + text.length()), before + text.length());
    }

    private static TurnedHeadings with(String text) {
        TurnedHeadings x = new TurnedHeadings();
        say(x, text);
        if (x.text() < 0) due("text of " + text, x.fault(0), 0);
        return x;
    }

    private static int adds(TurnedHeadings x, String heading) {
        say(x, heading);
        return x.adds();
    }

    private static String out(TurnedHeadings x) {
        StringBuilder text = new StringBuilder();
        int size = x.count(9);
        for (int i = 0; i < size; i++) text.append((char) x.octet(i));
        return text.toString();
    }

    private static String printed(TurnedHeadings x, int l) {
        int size = x.print(l);
        String text = out(x);
        due("print(" + l + ")", size, text.length());
        return text;
    }

    private static String allPrinted(TurnedHeadings x) {
        x.printAll();
        return out(x);
    }

    private static void faulty(String text, int number, int place) {
        TurnedHeadings x = new TurnedHeadings();
        say(x, text);
        due("text of " + text, x.text(), -4);
        due("fault(0) of " + text, x.fault(0), number);
        due("fault(1) of " + text, x.fault(1), place);
        due("count(8)", x.count(8), 0);
    }

    private static void fine(String text, int lines) {
        TurnedHeadings x = new TurnedHeadings();
        say(x, text);
        due("text of " + text, x.text(), lines);
        due("fault(0) of " + text, x.fault(0), 0);
        due("fault(1) of " + text, x.fault(1), -1);
    }

    /** strings of one act each, with ADDRESSES from first on. */
    private static String strings(int count) {
        StringBuilder text = new StringBuilder();
        for (int i = 0; i < count; i++) text.append("string ").append(i).append(":act ").append((char) ('a' + i)).append(";");
        return text.toString();
    }

    private static String sees(int count) {
        StringBuilder text = new StringBuilder();
        for (int i = 0; i < count; i++) text.append("see ").append((char) ('a' + i)).append(" z;");
        return text.toString();
    }

    private static void newObject() {
        TurnedHeadings x = new TurnedHeadings();
        for (int what = 0; what <= 9; what++) due("count(" + what + ")", x.count(what), 0);
        for (int role = 0; role < 6; role++) due("way", x.way(role), 0);
        due("undo()", x.undo(), -1);
        due("string(0, 0)", x.string(0, 0), -2);
    }

    private static void feed() {
        TurnedHeadings x = new TurnedHeadings();
        due("feed", x.feed(0x61626364, 0, 0, 0, 0), 20);
        due("end", x.end(4), 4);
        due("begins of abcd", x.begins(-1), 0);
        due("feed", x.feed(0x80ffffff, 0, 0, 0, -1), 20);
        due("end", x.end(1), 1);
        due("a byte of 128 is none", x.find(), -2);
        for (int i = 1; i <= 60; i++) due("feed", x.feed(0x20202020, 0x20202020, 0x20202020, 0x20202020, 0x20202020), i * 20);
        due("feed beyond 1200", x.feed(1, 1, 1, 1, 1), -1);
        due("count(8)", x.count(8), 1200);
        due("end", x.end(1181), 1181);
        due("feed beyond 1200", x.feed(1, 1, 1, 1, 1), -1);
        due("count(8)", x.count(8), 1181);
        due("end", x.end(1180), 1180);
        due("feed up to 1200", x.feed(0x20202020, 0x20202020, 0x20202020, 0x20202020, 0x20202020), 1200);
        due("text of 1200 blanks", x.text(), 0);
        due("the order of bytes", with("string 1:act abcdefg;").letter(0, 6), 7);
    }

    private static void end() {
        TurnedHeadings x = new TurnedHeadings();
        due("end(0)", x.end(0), 0);
        due("end(1)", x.end(1), -1);
        due("end(-1)", x.end(-1), -1);
        say(x, "abc");
        due("end(4)", x.end(4), -1);
        due("count(8)", x.count(8), 3);
        due("end(3)", x.end(3), 3);
        due("end(MIN)", x.end(Integer.MIN_VALUE), -1);
        due("end(MAX)", x.end(Integer.MAX_VALUE), -1);
        due("end(2)", x.end(2), 2);
        due("end(3)", x.end(3), -1);
        due("count(8)", x.count(8), 2);
    }

    private static void text() {
        fine("", 0);
        fine(" \n ", 0);
        fine("law act near;", 1);
        fine(CARS, 5);
        fine("string0:act a;string999:act a;string 007 : form abcdefg via abcdefg back abcdefg;", 3);
        fine("string 1:place a,thing a,part a,act a,agent a,not form a;", 1);
        fine(strings(12) + sees(12), 24);
        fine("law place plain;law thing whole;law part near;law act plain;law agent plain;law form near;", 6);
        TurnedHeadings x = with(CARS);
        due("law", x.law(0, 2), 0);
        String before = printed(x, 0);
        say(x, "string 5 : act a; x");
        due("a fault", x.text(), -4);
        due("strings stay", x.count(0), 3);
        due("acts stay", x.count(7), 1);
        due("ways stay", x.way(0), 2);
        due("OUT stays", out(x), before);
        say(x, "string 5 : act a;");
        due("text", x.text(), 1);
        due("strings", x.count(0), 1);
        due("sees", x.count(2), 0);
        due("ways are plain", x.way(0) + x.way(4), 0);
        due("nothing can be undone", x.undo(), -1);
        due("OUT stays", out(x), before);
        due("TAPE is empty", x.count(8), 0);
        for (int i = 0; i < 2; i++) {
            say(x, "law act near;");
            due("laws of another TEXT", x.text(), 1);
        }
        for (String piece : new String[] {"!", ";", "a", "0", "a0", " \u0000"}) {
            faulty(piece.repeat(1200 / piece.length()), 1, piece.charAt(0) == ' ' ? 1 : 0);
        }
        String head = "string 1:act a";
        fine(head + " ".repeat(1199 - head.length()) + ";", 1);
        faulty(head + " ".repeat(1200 - head.length()), 1, 1200);
    }

    private static void fault() {
        TurnedHeadings x = new TurnedHeadings();
        due("ahead of any", x.fault(0), 0);
        due("ahead of any", x.fault(1), -1);
        due("fault(2)", x.fault(2), -1);
        due("fault(-1)", x.fault(-1), -1);
        tokensThatCantStand();
        numbersAndAgain();
        tooManyAndFalling();
        say(x, strings(12));
        due("text", x.text(), 12);
        say(x, "law;");
        due("text", x.text(), -4);
        due("fault(1)", x.fault(1), 3);
        say(x, "!");
        due("adds at 12", x.adds(), -5);
        due("fault(0) stays", x.fault(0), 1);
        due("fault(1) stays", x.fault(1), 3);
        due("drops", x.drops(0), 11);
        due("adds", x.adds(), -4);
        due("fault(1)", x.fault(1), 0);
        due("adds", adds(x, "900:act a;"), 11);
        due("fault(0)", x.fault(0), 0);
        due("fault(1)", x.fault(1), -1);
        due("fault(2)", x.fault(2), -1);
    }

    private static void tokensThatCantStand() {
        faulty("x", 1, 0);
        faulty(" \n!", 1, 2);
        faulty("Law act near;", 1, 0);
        faulty("law", 1, 3);
        faulty("law  ", 1, 5);
        faulty("law act;", 1, 7);
        faulty("law act act;", 1, 8);
        faulty("law act near", 1, 12);
        faulty("law act near,", 1, 12);
        faulty(";", 1, 0);
        faulty("law act near;;", 1, 13);
        faulty("law not near;", 1, 4);
        faulty("law plain near;", 1, 4);
        faulty("law string near;", 1, 4);
        faulty("law 5 near;", 1, 4);
        faulty("law act 9;", 1, 8);
        faulty("law act not;", 1, 8);
        faulty("laws act near;", 1, 0);
        faulty("see a;", 1, 5);
        faulty("see see a;", 1, 4);
        faulty("see a near;", 1, 6);
        faulty("see a abcdefgh;", 1, 6);
        faulty("see a b c;", 1, 8);
        faulty("string : act a;", 1, 7);
        faulty("string x : act a;", 1, 7);
        faulty("string -1 : act a;", 1, 7);
        faulty("string 1 act a;", 1, 9);
        faulty("string 1;", 1, 8);
        faulty("string 1 :;", 1, 10);
        faulty("string 1 : 3 a;", 1, 11);
        faulty("string 1 : plain a;", 1, 11);
        faulty("string 1 : not;", 1, 14);
        faulty("string 1 : not not act a;", 1, 15);
        faulty("string 1 : act;", 1, 14);
        faulty("string 1 : act act;", 1, 15);
        faulty("string 1 : act 5;", 1, 15);
        faulty("string 1 : act a via;", 1, 20);
        faulty("string 1 : act a via back;", 1, 21);
        faulty("string 1 : act a back;", 1, 21);
        faulty("string 1 : act a back b via c;", 1, 24);
        faulty("string 1 : act a via b back via;", 1, 28);
        faulty("string 1 : act a via b via c;", 1, 23);
        faulty("string 1 : act a,;", 1, 17);
        faulty("string 1 : act a b;", 1, 17);
        faulty("string 1 : act A;", 1, 15);
        faulty("string 1 : act a\t;", 1, 16);
        faulty("string 1 : act \u00e9;", 1, 15);
        faulty("string 1 : act abcdefgh;", 1, 15);
        faulty("string 1 : act a via abcdefghijklmnopqrstuvwxyz;", 1, 21);
        faulty("string 1 : act a;string 1000 : act ", 2, 24);
        faulty("string 1 : act a;!string 1 : act a;", 1, 17);
    }

    private static void numbersAndAgain() {
        faulty("string 1000:act a;", 2, 7);
        faulty("string 99999999999999999999999:act a;", 2, 7);
        faulty("string 4294967297:act a;", 2, 7);
        faulty("string 18446744073709551617:act a;", 2, 7);
        fine("string 00000000000000000000999:act a;", 1);
        faulty("string 1:act a;string 01:act b;", 3, 22);
        faulty("law act near;law act near;", 3, 17);
        faulty("law act near;law act", 3, 17);
        faulty("see a b;see a", 3, 12);
        faulty("see a a;", 3, 6);
        faulty("see a b;see b a", 3, 14);
        faulty("see a b;see b c;see c a;", 3, 22);
        faulty("see b c;see a b;see c a;", 3, 22);
        fine("see a b;see c b;see b d;", 3);
        fine("see a b;see b c;string 1:act a via a back b;", 3);
        faulty("law act near;law form whole;law act!", 3, 32);
    }

    private static void tooManyAndFalling() {
        faulty(strings(12) + "string x", 4, strings(12).length());
        faulty(sees(12) + "see !", 4, sees(12).length());
        String six = "string 1:act a,act a,act a,act a,act a,act a,";
        faulty(six + "act", 4, six.length());
        faulty(six + "not", 4, six.length());
        faulty(six + "place a;", 4, six.length());
        faulty(six + "a;", 1, six.length());
        faulty(six + ";", 1, six.length());
        faulty(six, 1, six.length());
        faulty("string 1:thing a,place", 5, 17);
        faulty("string 1:thing a,not place a;", 5, 21);
        faulty("string 1:form a,agent a;", 5, 16);
        fine("string 1:thing a,thing b,form c,form c;", 1);
    }

    private static void count() {
        TurnedHeadings x = with(CARS);
        int[] want = {3, 10, 1, 5, 9, 9, 5, 0, 0, 0};
        for (int what = 0; what < want.length; what++) due("count(" + what + ")", x.count(what), want[what]);
        due("count(-1)", x.count(-1), -1);
        due("count(10)", x.count(10), -1);
        due("lead", x.lead(0, 0, 0), 1);
        due("heads that lead", x.count(6), 4);
        due("acts", x.count(7), 1);
        due("print", x.print(0), 21);
        due("OUT", x.count(9), 21);
        say(x, "abc");
        due("TAPE", x.count(8), 3);
        TurnedHeadings y = with("string 1:act a;string 2:act a;string 3:not act a;");
        due("ENTRIES", y.count(4), 2);
        due("LINES", y.count(5), 1);
        due("HEADS", y.count(6), 1);
        due("WORDS", y.count(3), 1);
        due("WORDS have no joins", with("string 1:act a via b back c;").count(3), 1);
        asManyAsCanBe();
        fewerThanBefore();
    }

    /** 12 STRINGS of 6 TERMS, each with a word of its own. */
    private static String full() {
        StringBuilder text = new StringBuilder();
        for (int s = 0; s < 12; s++) {
            text.append("string ").append(100 + s).append(":");
            for (int i = 0; i < 6; i++) {
                text.append(i == 0 ? "act " : ",act ").append((char) ('a' + s)).append((char) ('a' + i));
            }
            text.append(";");
        }
        return text.toString();
    }

    private static void asManyAsCanBe() {
        TurnedHeadings x = with(full());
        int[] want = {12, 72, 0, 72, 72, 72, 72};
        for (int what = 0; what < want.length; what++) due("count(" + what + ")", x.count(what), want[what]);
        due("the last ENTRY", x.entry(71, 1), 5);
        due("the last LINE", x.line(71, 1), 1);
        due("the last HEAD", x.head(71, 0), 71);
        due("the last WORD", x.most(71), 71);
        due("entry(72, 0)", x.entry(72, 0), -1);
        due("line(72, 0)", x.line(72, 0), -2);
        due("head(72, 0)", x.head(72, 0), -2);
        due("letter(72, 0)", x.letter(72, 0), -2);
        due("print(71)", printed(x, 71), "lf, le, ld, lc, lb, la 111");
        due("print(0)", printed(x, 0), "aa: ab. ac. ad. ae. af 100");
        due("cover()", x.cover(), 4095);
        due("groups()", x.groups(), 12);
        due("gather", x.gather(3, 71), 71);
        due("apart", x.apart(11), 1);
    }

    /** What was held of a longer TEXT must not come through. */
    private static void fewerThanBefore() {
        TurnedHeadings x = with(full());
        say(x, "string 5:act b,form b;string 6:not act a,act b;");
        due("text", x.text(), 2);
        // ENTRIES b of act, b of form, b of STRING 1 behind a.
        int[] want = {2, 4, 0, 2, 3, 2, 1};
        for (int what = 0; what < want.length; what++) due("count(" + what + ")", x.count(what), want[what]);
        due("row(3, 0, 0)", x.row(3, 0, 0), -1);
        due("row(3, 1, 0)", x.row(3, 1, 0), -1);
        due("string(0, 2)", x.string(0, 2), 2);
        due("string(0, 3)", x.string(0, 3), 2);
        due("string(1, 4)", x.string(1, 4), 0);
        due("would", x.would(3, 0, 2), 2);
        due("shared(3)", x.shared(3), 1);
        due("gather(3, -1)", x.gather(3, -1), 2);
        due("sharing", x.sharing(1, 1), 2);
        due("senses()", x.senses(), 2);
        due("cover()", x.cover(), 2);
        due("apart(0)", x.apart(0), -1);
        due("apart(1)", x.apart(1), 1);
        due("rarest(0)", x.rarest(0), 0);
        due("nearest(0)", x.nearest(0), 1);
        due("beside", x.beside(1, 0, -1), 2);
        due("groups()", x.groups(), 1);
        due("twins(0)", x.twins(0), 0);
        due("most(2)", x.most(2), -1);
    }

    private static void string() {
        TurnedHeadings x = with(CARS + "string 999:act a,act a,act b,act b,agent a,not form c;");
        due("ADDRESS", x.string(0, 0), 10);
        due("ADDRESS", x.string(3, 0), 999);
        due("TERMS", x.string(0, 1), 5);
        due("TERMS", x.string(3, 1), 6);
        due("those that lead", x.string(2, 2), 1);
        due("those that lead", x.string(3, 2), 5);
        // By rows: a: a b b a c; a: a, b b a c; b: a a, b a c; b: b a a, a c; agent a (whole): a a b b c.
        due("DOUBLES", x.string(3, 3), 2 + 2 + 2 + 2 + 3);
        due("DOUBLES", x.string(0, 3), 0);
        due("words twice", x.string(3, 4), 2);
        due("words twice", x.string(0, 4), 0);
        due("string(4, 0)", x.string(4, 0), -2);
        due("string(-1, 0)", x.string(-1, 0), -2);
        due("string(0, 5)", x.string(0, 5), -2);
        due("string(0, -1)", x.string(0, -1), -2);
        due("a word by sees twice", with("see a b;string 1:act a,act b;").string(0, 4), 1);
    }

    private static void term() {
        TurnedHeadings x = with(CARS + "see by through;");
        due("ROLE", x.term(0, 0, 0), 0);
        due("ROLE", x.term(0, 4, 0), 4);
        due("leads", x.term(0, 0, 1), 1);
        due("leads", x.term(2, 0, 1), 0);
        due("WORD", x.term(0, 0, 2), 4);
        due("WORD by a see", x.term(2, 1, 2), 0);
        due("via", x.term(0, 1, 3), 2);
        due("no via", x.term(0, 0, 3), 0);
        due("back by a see", x.term(0, 3, 4), 7);
        due("no back", x.term(0, 1, 4), 0);
        due("term(0, 5, 0)", x.term(0, 5, 0), -2);
        due("term(0, -1, 0)", x.term(0, -1, 0), -2);
        due("term(3, 0, 0)", x.term(3, 0, 0), -2);
        due("term(-1, 0, 0)", x.term(-1, 0, 0), -2);
        due("term(0, 0, 5)", x.term(0, 0, 5), -2);
        due("term(0, 0, -1)", x.term(0, 0, -1), -2);
    }

    private static void letter() {
        TurnedHeadings x = with("string 1:act abcdefz,act a,act ab;");
        // WORDS: a, ab, abcdefz.
        due("letter", x.letter(0, 0), 1);
        due("behind it", x.letter(0, 1), 0);
        due("letter", x.letter(1, 1), 2);
        due("behind it", x.letter(1, 6), 0);
        due("letter", x.letter(2, 6), 26);
        due("letter(2, 7)", x.letter(2, 7), -2);
        due("letter(2, -1)", x.letter(2, -1), -2);
        due("letter(3, 0)", x.letter(3, 0), -2);
        due("letter(-1, 0)", x.letter(-1, 0), -2);
    }

    private static void way() {
        TurnedHeadings x = with("law form near;law place whole;law act plain;");
        int[] want = {1, 0, 0, 0, 0, 2};
        for (int role = 0; role < 6; role++) due("way(" + role + ")", x.way(role), want[role]);
        due("way(6)", x.way(6), -2);
        due("way(-1)", x.way(-1), -2);
    }

    private static int find(TurnedHeadings x, String word) {
        say(x, word);
        int found = x.find();
        due("TAPE is empty", x.count(8), 0);
        return found;
    }

    private static void findWord() {
        TurnedHeadings x = with(CARS + "see bots robots;see b bots;");
        due("find cars", find(x, "cars"), 0);
        due("find autos", find(x, "autos"), 0);
        due("find b", find(x, "b"), 3);
        due("find texas", find(x, "texas"), 4);
        due("find in", find(x, "in"), -1);
        due("find law", find(x, "law"), -1);
        due("find abcdefg", find(x, "abcdefg"), -1);
        due("find abcdefgh", find(x, "abcdefgh"), -2);
        due("find of none", find(x, ""), -2);
        due("find ' cars'", find(x, " cars"), -2);
        due("find Cars", find(x, "Cars"), -2);
        due("find car1", find(x, "car1"), -2);
    }

    private static void at() {
        TurnedHeadings x = with(CARS + "string 0:act a;string 999:act a;");
        due("at(10)", x.at(10), 0);
        due("at(3)", x.at(3), 2);
        due("at(0)", x.at(0), 3);
        due("at(999)", x.at(999), 4);
        due("at(1)", x.at(1), -1);
        due("at(-1)", x.at(-1), -2);
        due("at(1000)", x.at(1000), -2);
    }

    private static void entry() {
        TurnedHeadings x = with(CARS);
        int[] strings = {1, 2, 0, 1, 0, 1, 0, 0, 0};
        int[] places = {0, 1, 1, 1, 2, 2, 3, 4, 0};
        int[] above = {0, 1, 1, 1, 2, 2, 3, 0, 0};
        int[] below = {2, 0, 3, 1, 2, 0, 1, 4, 4};
        for (int k = 0; k < 9; k++) {
            due("STRING of " + k, x.entry(k, 0), strings[k]);
            due("TERM of " + k, x.entry(k, 1), places[k]);
            due("LINE of " + k, x.entry(k, 2), k);
            due("ABOVE of " + k, x.entry(k, 3), above[k]);
            due("BELOW of " + k, x.entry(k, 4), below[k]);
            due("DOUBLES of " + k, x.entry(k, 5), 0);
        }
        due("entry(9, 0)", x.entry(9, 0), -1);
        due("entry(9, 6)", x.entry(9, 6), -2);
        due("entry(0, -1)", x.entry(0, -1), -2);
        due("entry(-1, 0)", x.entry(-1, 0), -2);
        due("entry(MAX, 0)", x.entry(Integer.MAX_VALUE, 0), -1);
        orderOfEntries();
        doubles();
    }

    private static void orderOfEntries() {
        TurnedHeadings x = with("string 9:act a;string 5:act a;string 7:act a,act a;");
        int[] strings = {1, 2, 2, 0};
        int[] places = {0, 0, 1, 0};
        for (int k = 0; k < 4; k++) {
            due("by ADDRESS", x.entry(k, 0), strings[k]);
            due("by place", x.entry(k, 1), places[k]);
            due("one LINE", x.entry(k, 2), 0);
        }
        TurnedHeadings y = with("string 1:act a,act c;string 2:act b,act c;string 3:act c;string 4:act c,act a;"
            + "string 5:act a,act b,act c;");
        due("order", allPrinted(y), "a: b. c 5\na: c 1\na, c 4\nb: c 2\nb, a: c 5\nc 3\nc: a 4\nc, a 1\nc, b 2\nc, b, a 5\n");
    }

    private static void doubles() {
        TurnedHeadings x = with("string 1:act a,act b,act a,act a,act b;");
        due("plain", allPrinted(x), "a: b. a. b 1\na, b, a: b 1\nb, a: a. b 1\nb, a, b, a 1\n");
        due("DOUBLES", x.string(0, 3), 5);
        int[] places = {0, 2, 3, 1, 4};
        int[] lost = {1 << 3, 1 << 3, 1 << 2, 1 << 3, 1 << 2};
        for (int k = 0; k < 5; k++) {
            due("TERM of " + k, x.entry(k, 1), places[k]);
            due("DOUBLES of " + k, x.entry(k, 5), 1);
            due("lost(" + k + ")", x.lost(k), lost[k]);
        }
        due("law near", x.law(3, 2), 0);
        // The first a: b a a b. The first b: a, then a a b. The other a: b a, then a b. The last b: a a b a.
        due("near", allPrinted(x), "a, b, a, b 1\nb, a, b 1\nb, a, b, a 1\n");
        due("law whole", x.law(3, 1), 2);
        due("whole", allPrinted(x), "a: b. a. b 1\nb: a. b 1\nb: a. b. a 1\n");
        due("not only the nearest", with("string 1:act a,act a,act a,act a;").lost(0), 14);
    }

    private static void row() {
        TurnedHeadings x = with(CARS);
        int[] above = {1, 0, 4};
        for (int i = 0; i < 3; i++) due("ABOVE", x.row(6, 0, i), above[i]);
        due("ABOVE", x.row(6, 0, 3), -1);
        due("BELOW", x.row(6, 1, 0), 3);
        due("BELOW", x.row(6, 1, 1), -1);
        int[] below = {4, 0, 1, 2};
        for (int i = 0; i < 4; i++) due("whole", x.row(7, 1, i), below[i]);
        due("whole", x.row(7, 0, 0), -1);
        due("row(9, 0, 0)", x.row(9, 0, 0), -1);
        due("row(9, 2, 0)", x.row(9, 2, 0), -2);
        due("row(0, -1, 0)", x.row(0, -1, 0), -2);
        due("row(-1, 0, 0)", x.row(-1, 0, 0), -2);
        due("row(9, 0, -1)", x.row(9, 0, -1), -2);
        due("row(0, 1, MAX)", x.row(0, 1, Integer.MAX_VALUE), -1);
        due("law near", x.law(1, 2), 0);
        // Now cars of STRING 0 has texas, doors, repair, robots ABOVE, cars of STRING 1 doors, repair.
        due("order of ENTRIES", x.entry(0, 0), 1);
        due("order of ENTRIES", x.entry(2, 0), 0);
        int[] near = {4, 1, 2, 3};
        for (int i = 0; i < 4; i++) due("near", x.row(2, 0, i), near[i]);
        due("near", x.row(2, 1, 0), -1);
    }

    private static final String MERGED = "string 9:act a,act b via in;string 5:act a,act b;string 7:act a,act a,act b;string 3:act c;";
    // WORDS a, b, c. ENTRIES: a: b of 5, of 7 (twice), of 9; b, a of 5, 7, 9; c of 3.

    private static void line() {
        TurnedHeadings x = with(MERGED);
        int[] firsts = {0, 4, 7};
        int[] counts = {4, 3, 1};
        int[] addresses = {3, 3, 1};
        for (int l = 0; l < 3; l++) {
            due("first ENTRY", x.line(l, 0), firsts[l]);
            due("ENTRIES", x.line(l, 1), counts[l]);
            due("ADDRESSES", x.line(l, 2), addresses[l]);
            due("HEAD", x.line(l, 3), l);
        }
        due("line(3, 0)", x.line(3, 0), -2);
        due("line(-1, 0)", x.line(-1, 0), -2);
        due("line(0, 4)", x.line(0, 4), -2);
        due("line(0, -1)", x.line(0, -1), -2);
        due("HEAD of a later LINE", with(CARS).line(8, 3), 4);
    }

    private static void address() {
        TurnedHeadings x = with(MERGED);
        int[] want = {5, 7, 9, -1};
        for (int k = 0; k < 4; k++) due("address(0, " + k + ")", x.address(0, k), want[k]);
        due("address(2, 0)", x.address(2, 0), 3);
        due("address(2, 1)", x.address(2, 1), -1);
        due("address(3, 0)", x.address(3, 0), -2);
        due("address(-1, 0)", x.address(-1, 0), -2);
        due("address(0, -1)", x.address(0, -1), -2);
        due("ADDRESS 0", with("string 0:act a;").address(0, 0), 0);
        due("ADDRESSES", printed(with("string 0:act a;string 9:act a;string 10:act a;string 99:act a;string 100:act a;string 909:act a;"), 0),
            "a 0,9,10,99,100,909");
    }

    private static void head() {
        TurnedHeadings x = with(CARS);
        int[] lines = {3, 2, 2, 1, 1};
        for (int h = 0; h < 5; h++) {
            due("WORD", x.head(h, 0), h);
            due("LINES", x.head(h, 1), lines[h]);
            due("ENTRIES", x.head(h, 2), lines[h]);
            due("STRINGS", x.head(h, 3), lines[h]);
        }
        TurnedHeadings y = with(MERGED);
        due("LINES", y.head(0, 1), 1);
        due("ENTRIES", y.head(0, 2), 4);
        due("STRINGS", y.head(0, 3), 3);
        due("head(3, 0)", y.head(3, 0), -2);
        due("head(-1, 0)", y.head(-1, 0), -2);
        due("head(0, 4)", y.head(0, 4), -2);
        due("head(0, -1)", y.head(0, -1), -2);
        due("WORD of a HEAD", with("string 1:not act a,act b;").head(0, 0), 1);
    }

    private static void print() {
        TurnedHeadings x = with(CARS);
        for (int l = 0; l < 9; l++) due("LINE " + l, printed(x, l), CARS_LINES[l]);
        due("print(9)", x.print(9), -2);
        due("print(-1)", x.print(-1), -2);
        due("OUT stays", out(x), CARS_LINES[8]);
        TurnedHeadings y = with(CARS + "see by through;see of about;");
        due("law", y.law(4, 0), 1);
        due("back, by sees", printed(y, 7), "robots, repair through, doors, cars, texas 10");
        due("via, by sees", printed(y, 2), "cars, texas: doors. about repair. robots 10");
        TurnedHeadings z = with(MERGED);
        due("ADDRESSES", printed(z, 0), "a: b 5,7,9");
        due("by the first ENTRY", z.moves(0, 1), 9);
        due("by the first ENTRY", printed(z, 0), "a: in b 1,5,7");
        due("the LEAD has no joins", printed(with("string 0:act a via b back c;"), 0), "a 0");
        StringBuilder longest = new StringBuilder();
        for (int i = 0; i < 12; i++) {
            longest.append("string ").append(988 + i).append(":act aaaaaaa,act bbbbbbb,act ccccccc,act ddddddd,act eeeeeee,act fffffff");
            longest.append(i == 0 ? " via ggggggg" : "").append(";");
        }
        due("a long LINE", printed(with(longest.toString()), 0),
            "aaaaaaa: bbbbbbb. ccccccc. ddddddd. eeeeeee. ggggggg fffffff 988,989,990,991,992,993,994,995,996,997,998,999");
    }

    private static void printAll() {
        TurnedHeadings x = with(CARS);
        due("printAll()", x.printAll(), 9);
        due("OUT", out(x), String.join("\n", CARS_LINES) + "\n");
        TurnedHeadings empty = new TurnedHeadings();
        due("printAll()", empty.printAll(), 0);
        due("OUT", empty.count(9), 0);
        say(x, "string 1:not act a;");
        due("text", x.text(), 1);
        due("no LINES", x.printAll(), 0);
        due("OUT is empty", x.count(9), 0);
        within2000("", 36, 1998);
        within2000(" via x", 36, 2000);
        within2000(" via xy", 35, 2001 - 57);
    }

    /** Six STRINGS of six words of 7 letters: 36 LINES of 57 bytes with LF, less the digits that ADDRESSES lack of three. */
    private static void within2000(String join, int lines, int bytes) {
        int[] addresses = {0, 1, 2, 3, 44, 555};
        StringBuilder text = new StringBuilder();
        for (int s = 0; s < 6; s++) {
            text.append("string ").append(addresses[s]).append(":");
            for (int i = 0; i < 6; i++) {
                text.append(i == 0 ? "act " : ",act ").append((char) ('a' + s)).append("aaaaa").append((char) ('a' + i));
                // The second TERM is BELOW in one LINE alone.
                if (s == 0 && i == 1) text.append(join);
            }
            text.append(";");
        }
        TurnedHeadings x = with(text.toString());
        due("LINES", x.count(5), 36);
        due("printAll()", x.printAll(), lines);
        due("OUT", x.count(9), bytes);
        due("the last byte", x.octet(bytes - 1), 10);
        due("behind it", x.octet(bytes), -1);
    }

    private static void octet() {
        TurnedHeadings x = new TurnedHeadings();
        due("octet(0)", x.octet(0), -1);
        say(x, "string 12:act ab;");
        due("text", x.text(), 1);
        due("print(0)", x.print(0), 5);
        int[] want = {'a', 'b', ' ', '1', '2', -1};
        for (int i = 0; i < want.length; i++) due("octet(" + i + ")", x.octet(i), want[i]);
        due("octet(-1)", x.octet(-1), -1);
        due("octet(MAX)", x.octet(Integer.MAX_VALUE), -1);
        due("drops", x.drops(0), 0);
        due("print(0)", x.print(0), -2);
        due("OUT stays", out(x), "ab 12");
        due("printAll()", x.printAll(), 0);
        due("octet(0)", x.octet(0), -1);
    }

    private static void rebuilt() {
        TurnedHeadings x = with(CARS);
        int[] want = {1, 2, 0, 1, 0, 1, 0, 0, 0, -1};
        for (int k = 0; k < want.length; k++) due("rebuilt(" + k + ")", x.rebuilt(k), want[k]);
        due("rebuilt(-1)", x.rebuilt(-1), -2);
        TurnedHeadings y = with(MERGED);
        // The ENTRIES of STRINGS 1, 2, 0 (by ADDRESS): the first STRING of all is 0.
        for (int k = 0; k < 7; k++) due("rebuilt(" + k + ")", y.rebuilt(k), 0);
        due("rebuilt(7)", y.rebuilt(7), 3);
        due("rebuilt(8)", y.rebuilt(8), -1);
    }

    private static int begins(TurnedHeadings x, String letters, int k) {
        say(x, letters);
        int found = x.begins(k);
        due("TAPE is empty", x.count(8), 0);
        return found;
    }

    private static void beginnings() {
        TurnedHeadings x = with("string 1:not act a,act ab,act abc,act abcdefg,act b;");
        // HEADS: ab 0, abc 1, abcdefg 2, b 3; their WORDS are 1 to 4.
        due("all", begins(x, "", -1), 4);
        due("the last", begins(x, "", 3), 3);
        due("too many", begins(x, "", 4), -1);
        due("ab", begins(x, "ab", -1), 3);
        due("abc", begins(x, "abc", -1), 2);
        due("abc", begins(x, "abc", 0), 1);
        due("abc", begins(x, "abc", 1), 2);
        due("abc", begins(x, "abc", 2), -1);
        due("abcdefg", begins(x, "abcdefg", -1), 1);
        due("abcdeff", begins(x, "abcdeff", -1), 0);
        due("abcdefgh", begins(x, "abcdefgh", -1), -2);
        due("c", begins(x, "c", -1), 0);
        due("c", begins(x, "c", 0), -1);
        due("k below NONE", begins(x, "a", -2), -2);
        due("other bytes", begins(x, "A", -1), -2);
        due("other bytes", begins(x, "a ", 0), -2);
    }

    // WORDS a 0, b 1, c 2, d 3, e 4.
    private static final String MIXED = "string 1:place a,thing b,part c;string 2:thing b,part c,part a;"
        + "string 3:place a,thing b,part c,form c;string 4:part d,act b;string 5:form e;";

    private static void having() {
        TurnedHeadings x = with(MIXED);
        due("a", x.having(0, -1), 0b00111);
        due("a, place", x.having(0, 0), 0b00101);
        due("a, part", x.having(0, 2), 0b00010);
        due("b", x.having(1, -1), 0b01111);
        due("b, act", x.having(1, 3), 0b01000);
        due("c, form", x.having(2, 5), 0b00100);
        due("e, place", x.having(4, 0), 0);
        due("e", x.having(4, -1), 0b10000);
        due("having(0, -2)", x.having(0, -2), -2);
        due("having(0, 6)", x.having(0, 6), -2);
        due("having(5, -1)", x.having(5, -1), -2);
        due("having(-1, -1)", x.having(-1, -1), -2);
    }

    private static void sharing() {
        TurnedHeadings x = with(MIXED);
        due("none", x.sharing(0, 0), 0b11111);
        due("a", x.sharing(0, 1), 0b00111);
        due("b", x.sharing(0, 2), 0b01111);
        due("all", x.sharing(0, 7), 0b00111);
        due("d, b", x.sharing(3, 3), 0b01000);
        due("e", x.sharing(4, 1), 0b10000);
        due("sharing(4, 2)", x.sharing(4, 2), -2);
        due("sharing(0, 8)", x.sharing(0, 8), -2);
        due("sharing(0, -1)", x.sharing(0, -1), -2);
        due("sharing(0, MIN)", x.sharing(0, Integer.MIN_VALUE), -2);
        due("sharing(5, 0)", x.sharing(5, 0), -2);
        due("sharing(-1, 0)", x.sharing(-1, 0), -2);
        TurnedHeadings full = with(strings(12));
        due("of 12", full.sharing(0, 0), 4095);
        due("of 12", full.sharing(11, 1), 2048);
    }

    private static void alike() {
        TurnedHeadings x = with("see z a;string 1:act a,act b;string 2:not act z via q,act b;string 3:act b,act a;"
            + "string 4:act a,act b,act a;string 5:act a,agent b;string 6:act a;");
        due("one and the same", x.alike(0, 0), 2);
        due("joins, not, sees aside", x.alike(0, 1), 2);
        due("in another order", x.alike(0, 2), 1);
        due("one more often", x.alike(0, 3), 1);
        due("another ROLE", x.alike(0, 4), 0);
        due("fewer", x.alike(0, 5), 0);
        due("more", x.alike(5, 0), 0);
        due("alike(0, 6)", x.alike(0, 6), -2);
        due("alike(6, 0)", x.alike(6, 0), -2);
        due("alike(-1, 0)", x.alike(-1, 0), -2);
    }

    private static void common() {
        TurnedHeadings x = with(MIXED);
        due("of both", x.common(0, 1, 0), 2);
        due("of one or both", x.common(0, 1, 1), 4);
        due("of both", x.common(0, 2, 0), 3);
        due("of one or both", x.common(0, 2, 1), 4);
        due("the same", x.common(2, 2, 0), 4);
        due("the same", x.common(2, 2, 1), 4);
        due("another ROLE", x.common(0, 3, 0), 0);
        due("none", x.common(0, 4, 1), 4);
        due("doubles once", with("string 1:act a,act a;string 2:act a;").common(0, 1, 1), 1);
        due("common(0, 5, 0)", x.common(0, 5, 0), -2);
        due("common(-1, 0, 0)", x.common(-1, 0, 0), -2);
        due("common(0, 0, 2)", x.common(0, 0, 2), -2);
        due("common(0, 0, -1)", x.common(0, 0, -1), -2);
    }

    private static void nearest() {
        TurnedHeadings x = with(MIXED + "string 6:thing b,part c;");
        due("nearest(0)", x.nearest(0), 2);
        due("nearest(1)", x.nearest(1), 0);
        due("nearest(2)", x.nearest(2), 0);
        due("nearest(3)", x.nearest(3), -1);
        due("nearest(5)", x.nearest(5), 0);
        due("nearest(6)", x.nearest(6), -2);
        due("nearest(-1)", x.nearest(-1), -2);
        due("alone", with("string 1:act a;").nearest(0), -1);
    }

    private static void senses() {
        due("none", new TurnedHeadings().senses(), 0);
        due("each", with(MIXED).senses(), 5);
        due("of one", with("string 1:act a,act b;string 2:act b,act a;string 3:act a,act b,act b;string 4:act a;").senses(), 2);
    }

    private static void beside() {
        TurnedHeadings x = with("string 1:act b,act a,act c;string 2:act d,act a,act a;string 3:act a,act b;string 4:act e;");
        // Right ahead of a: a, b, d; right behind it: a, b, c.
        due("ahead", x.beside(0, 0, -1), 3);
        int[] ahead = {0, 1, 3, -1};
        for (int k = 0; k < 4; k++) due("ahead, " + k, x.beside(0, 0, k), ahead[k]);
        due("behind", x.beside(0, 1, -1), 3);
        int[] behind = {0, 1, 2, -1};
        for (int k = 0; k < 4; k++) due("behind, " + k, x.beside(0, 1, k), behind[k]);
        due("none", x.beside(4, 0, -1), 0);
        due("none", x.beside(4, 1, 0), -1);
        due("not across", x.beside(2, 0, -1), 1);
        due("beside(0, 2, -1)", x.beside(0, 2, -1), -2);
        due("beside(0, -1, -1)", x.beside(0, -1, -1), -2);
        due("beside(0, 0, -2)", x.beside(0, 0, -2), -2);
        due("beside(5, 0, -1)", x.beside(5, 0, -1), -2);
        due("beside(-1, 0, -1)", x.beside(-1, 0, -1), -2);
    }

    private static void often() {
        TurnedHeadings x = with(MIXED);
        int[] want = {3, 4, 3, 1, 1, -2};
        for (int word = 0; word < 6; word++) due("often(" + word + ")", x.often(word), want[word]);
        due("often(-1)", x.often(-1), -2);
    }

    private static void most() {
        TurnedHeadings x = with(MIXED);
        int[] want = {1, 0, 2, 3, 4, -1};
        for (int k = 0; k < 6; k++) due("most(" + k + ")", x.most(k), want[k]);
        due("most(-1)", x.most(-1), -2);
    }

    private static void apart() {
        TurnedHeadings x = with(MIXED);
        due("in others", x.apart(0), -1);
        due("in others", x.apart(2), -1);
        due("d", x.apart(3), 1);
        due("e", x.apart(4), 1);
        due("apart(5)", x.apart(5), -2);
        due("apart(-1)", x.apart(-1), -2);
        due("alone", with("string 1:act a,act b;").apart(0), 0);
        TurnedHeadings y = with("string 1:act a,act b,act c,act d;string 2:act a,act b;string 3:act b,act c;string 4:act d;");
        // Of twos, a with c (5), a with d (9), b with d (10) and c with d (12) are in STRING 0 alone.
        due("two", y.apart(0), 5);
        due("two", y.apart(1), -1);
        TurnedHeadings z = with("string 1:act a,act b,act c;string 2:act a;string 3:act b;");
        due("fewer, not less", z.apart(0), 4);
    }

    private static void cover() {
        due("no WORDS", new TurnedHeadings().cover(), -1);
        due("cover()", with(MIXED).cover(), 0b11001);
        due("one", with("string 1:act a;string 2:act a,act b;").cover(), 2);
        due("of like ones the least", with("string 1:act a,act b;string 2:act c,act d;string 3:act c,act d;string 4:act a,act b;").cover(), 3);
        due("fewer, not less", with("string 1:act a;string 2:act b;string 3:act a,act b;").cover(), 4);
        due("all", with(strings(12)).cover(), 4095);
    }

    private static void would() {
        TurnedHeadings x = with("string 1:act a,act b;string 2:act a,act c;string 3:act b,act a,act a;string 4:not act d;");
        due("ENTRIES", x.would(3, 0, 0), 7);
        // plain: a: b 1; a: c 2; a, b 3 (twice); b: a 3; b, a 1; c, a 2.
        // whole: a: b 1; a: b. a 3 (twice); a: c 2; b: a 1,3; c: a 2. near: a, b 1,3; a, b, a 3; a, c 2; b, a 1,3; c, a 2.
        due("LINES, plain", x.would(3, 0, 1), 6);
        due("LINES, whole", x.would(3, 1, 1), 5);
        due("LINES, near", x.would(3, 2, 1), 5);
        due("DOUBLES, plain", x.would(3, 0, 2), 3);
        due("DOUBLES, whole", x.would(3, 1, 2), 1);
        due("DOUBLES, near", x.would(3, 2, 2), 2);
        due("another ROLE", x.would(0, 1, 1), 6);
        due("nothing changed", x.way(3) + x.count(7), 0);
        due("nothing changed", x.count(5), 6);
        due("would(6, 0, 0)", x.would(6, 0, 0), -2);
        due("would(-1, 0, 0)", x.would(-1, 0, 0), -2);
        due("would(0, 3, 0)", x.would(0, 3, 0), -2);
        due("would(0, -1, 0)", x.would(0, -1, 0), -2);
        due("would(0, 0, 3)", x.would(0, 0, 3), -2);
        due("would(0, 0, -1)", x.would(0, 0, -1), -2);
        due("where rows meet", with("string 1:act a,act b,act a,act b;").would(3, 2, 2), 1);
    }

    private static void faultyAdds(TurnedHeadings x, String heading, int number, int place) {
        due("adds of " + heading, adds(x, heading), -4);
        due("fault(0) of " + heading, x.fault(0), number);
        due("fault(1) of " + heading, x.fault(1), place);
        due("count(8)", x.count(8), 0);
    }

    private static void adds() {
        TurnedHeadings x = with(CARS);
        due("adds", adds(x, "0:not thing autos;"), 3);
        due("its WORD", x.term(3, 0, 2), 0);
        due("an act", x.count(7), 1);
        due("in how many", x.often(0), 4);
        due("adds", adds(x, " 999 \n:place a,thing a,part a,act a,agent a,form a ; "), 4);
        faultyAdds(x, "", 1, 0);
        faultyAdds(x, "string 1:act a;", 1, 0);
        faultyAdds(x, "1:act a", 1, 7);
        faultyAdds(x, "1:act a;;", 1, 8);
        faultyAdds(x, "1:act a; string 2:act a;", 1, 9);
        faultyAdds(x, "1000:act a;", 2, 0);
        faultyAdds(x, " 10:act a;", 3, 1);
        faultyAdds(x, "1:act a,act a,act a,act a,act a,act a,act a;", 4, 38);
        faultyAdds(x, "1:act a,thing a;", 5, 8);
        due("STRINGS", x.count(0), 5);
        due("acts", x.count(7), 2);
        TurnedHeadings full = with(strings(11));
        due("adds", adds(full, "11:act l;"), 11);
        say(full, "12:act m;");
        due("adds", full.adds(), -5);
        due("the TAPE stays", full.count(8), 9);
        due("drops", full.drops(0), 11);
        due("adds", full.adds(), 11);
        due("STRINGS", full.count(0), 12);
        due("its ADDRESS", full.string(11, 0), 12);
    }

    private static void drops() {
        TurnedHeadings x = with(CARS);
        due("drops(3)", x.drops(3), -2);
        due("drops(-1)", x.drops(-1), -2);
        due("drops(0)", x.drops(0), 2);
        due("ADDRESS", x.string(0, 0), 7);
        due("ADDRESS", x.string(1, 0), 3);
        due("term", x.term(1, 0, 1), 0);
        due("WORDS", x.count(3), 4);
        due("LINES", allPrinted(x), "cars: doors. repair 7\ncars, texas 3\ndoors, cars: repair 7\nrepair, doors, cars 7\n");
        due("drops(1)", x.drops(1), 1);
        due("drops(0)", x.drops(0), 0);
        due("drops(0)", x.drops(0), -2);
        due("sees stay", x.count(2), 1);
        due("acts", x.count(7), 3);
        TurnedHeadings full = with(strings(12));
        due("the last of 12", full.drops(11), 11);
        due("the first", full.drops(0), 10);
        due("ADDRESS", full.string(9, 0), 10);
    }

    private static void law() {
        TurnedHeadings x = with(CARS);
        due("law(4, 2)", x.law(4, 2), 1);
        due("way", x.way(4), 2);
        due("LINE", printed(x, 7), "robots, repair by, doors, cars, texas 10");
        due("acts", x.count(7), 1);
        due("the same", x.law(4, 2), 2);
        due("no act", x.count(7), 1);
        due("law(6, 0)", x.law(6, 0), -2);
        due("law(-1, 0)", x.law(-1, 0), -2);
        due("law(0, 3)", x.law(0, 3), -2);
        due("law(0, -1)", x.law(0, -1), -2);
    }

    private static void lead() {
        TurnedHeadings x = with(CARS);
        due("lead(2, 0, 1)", x.lead(2, 0, 1), 0);
        due("leads", x.term(2, 0, 1), 1);
        due("LINE", printed(x, 8), "texas: cars 3");
        due("acts", x.count(7), 1);
        due("again", x.lead(2, 0, 1), 1);
        due("no act", x.count(7), 1);
        due("lead(2, 0, 0)", x.lead(2, 0, 0), 1);
        due("ENTRIES", x.count(4), 9);
        due("lead(2, 0, 0)", x.lead(2, 0, 0), 0);
        due("acts", x.count(7), 2);
        due("lead(0, 0, 2)", x.lead(0, 0, 2), -2);
        due("lead(0, 0, -1)", x.lead(0, 0, -1), -2);
        due("lead(0, 5, 0)", x.lead(0, 5, 0), -2);
        due("lead(0, -1, 0)", x.lead(0, -1, 0), -2);
        due("lead(3, 0, 0)", x.lead(3, 0, 0), -2);
    }

    private static void swaps() {
        TurnedHeadings x = with("string 1:thing a via x,not thing b back yy,thing c,act d;");
        due("swaps(0, 0, 2)", x.swaps(0, 0, 2), 1);
        due("LINE", printed(x, 1), "c: b. x a. d 1");
        due("swaps(0, 1, 2)", x.swaps(0, 1, 2), 1);
        due("it leads", x.term(0, 1, 1), 1);
        due("via", x.term(0, 1, 3), 1);
        due("it leads not", x.term(0, 2, 1), 0);
        due("back", x.term(0, 2, 4), 2);
        due("LINE", allPrinted(x), "a, c: b. d 1\nc: x a. b. d 1\nd, b yy, a, c 1\n");
        due("acts", x.count(7), 2);
        due("ROLES would fall", x.swaps(0, 0, 3), -6);
        due("ROLES would fall", x.swaps(0, 3, 2), -6);
        due("one and the same", x.swaps(0, 3, 3), -2);
        due("swaps(0, 0, 4)", x.swaps(0, 0, 4), -2);
        due("swaps(0, -1, 0)", x.swaps(0, -1, 0), -2);
        due("swaps(1, 0, 1)", x.swaps(1, 0, 1), -2);
        due("acts", x.count(7), 2);
        TurnedHeadings y = with("string 1:act a,act a;");
        due("alike", y.swaps(0, 0, 1), 1);
        due("an act", y.count(7), 1);
    }

    private static void see() {
        TurnedHeadings x = with(CARS);
        due("texas for robots", x.see(4, 3), 2);
        due("WORDS", x.count(3), 4);
        due("find", find(x, "texas"), 3);
        due("LINE", printed(x, 1), "cars, robots 3");
        due("robots for cars", x.see(3, 0), 3);
        due("find", find(x, "texas"), 0);
        due("one", x.see(0, 0), -6);
        due("see(3, 0)", x.see(3, 0), -2);
        due("see(0, -1)", x.see(0, -1), -2);
        due("acts", x.count(7), 2);
        TurnedHeadings full = with(sees(12) + "string 1:act b,act y;");
        due("12", full.see(0, 1), -5);
        due("12, and one", full.see(0, 0), -5);
        due("12, and none such", full.see(0, 2), -2);
        due("forget", full.forget(0), 11);
        due("the 12th", full.see(0, 1), 12);
        due("joins, too", joinsSeen(), "b 1\nc: b b 2\n");
    }

    private static String joinsSeen() {
        TurnedHeadings x = with("string 1:act a;string 2:not act b via a,act c;");
        x.law(3, 1);
        x.see(0, 1);
        return allPrinted(x);
    }

    private static void forget() {
        TurnedHeadings x = with("see a b;see b c;see d c;string 1:act a,act b,act d;");
        due("WORDS", x.count(3), 1);
        due("forget(3)", x.forget(3), -1);
        due("forget(-1)", x.forget(-1), -2);
        due("forget(1)", x.forget(1), 2);
        due("WORDS: b, c", x.count(3), 2);
        due("find a", find(x, "a"), 0);
        due("the next one has its number", x.forget(1), 1);
        due("find d", find(x, "d"), 1);
        due("forget(0)", x.forget(0), 0);
        due("WORDS: a, b, d", x.count(3), 3);
        TurnedHeadings y = with("see a b;see c d;see e f;string 1:act d,act f;");
        due("forget(0)", y.forget(0), 2);
        due("find c", find(y, "c"), 0);
        due("find e", find(y, "e"), 1);
        due("find a", find(y, "a"), -1);
        due("forget(0)", x.forget(0), -1);
        due("acts", x.count(7), 3);
    }

    private static void moves() {
        TurnedHeadings x = with(MERGED);
        due("moves(0, 0)", x.moves(0, 0), 9);
        due("LINE", printed(x, 0), "a: in b 0,5,7");
        due("moves(0, 999)", x.moves(0, 999), 0);
        due("LINE", printed(x, 0), "a: b 5,7,999");
        due("another one has it", x.moves(0, 5), -6);
        due("its own", x.moves(0, 999), 999);
        due("acts", x.count(7), 2);
        due("at", x.at(9), -1);
        due("moves(0, 1000)", x.moves(0, 1000), -2);
        due("moves(0, -1)", x.moves(0, -1), -2);
        due("moves(4, 5)", x.moves(4, 5), -2);
        due("moves(-1, 1)", x.moves(-1, 1), -2);
    }

    private static void undo() {
        TurnedHeadings x = with(CARS);
        due("adds", adds(x, "1:act a via b back c,not form d;"), 3);
        due("drops", x.drops(1), 3);
        due("law", x.law(1, 2), 0);
        due("lead", x.lead(0, 1, 0), 1);
        due("see", x.see(0, 1), 2);
        due("forget", x.forget(0), 1);
        due("moves", x.moves(0, 500), 10);
        for (int left = 6; left >= 0; left--) {
            due("undo()", x.undo(), left);
            due("count(7)", x.count(7), left);
        }
        due("undo()", x.undo(), -1);
        due("all as it was", allPrinted(x), String.join("\n", CARS_LINES) + "\n");
        due("all as it was", x.string(1, 0) * 1000 + x.count(2), 7001);
        TurnedHeadings y = with("string 1:act a,act b;");
        due("swaps", y.swaps(0, 0, 1), 1);
        due("WORD", y.term(0, 0, 2), 1);
        due("undo()", y.undo(), 0);
        due("WORD", y.term(0, 0, 2), 0);
        for (int i = 1; i <= 11; i++) y.moves(0, 100 + i);
        due("ten of them", y.count(7), 10);
        for (int left = 9; left >= 0; left--) due("undo()", y.undo(), left);
        due("the eleventh stays", y.string(0, 0), 101);
        due("undo()", y.undo(), -1);
        due("moves", y.moves(0, 7), 101);
        due("undo()", y.undo(), 0);
        due("ADDRESS", y.string(0, 0), 101);
        TurnedHeadings z = with("see a b;see c d;see e f;string 1:act a,act c,act e;");
        due("forget(1)", z.forget(1), 2);
        due("undo()", z.undo(), 0);
        due("in its place", z.forget(1), 2);
        due("c is told again", find(z, "c"), 1);
    }

    private static void gather() {
        TurnedHeadings x = with(MIXED);
        due("part", x.gather(2, -1), 3);
        int[] want = {0, 2, 3, -1};
        for (int k = 0; k < 4; k++) due("part, " + k, x.gather(2, k), want[k]);
        due("agent", x.gather(4, -1), 0);
        due("agent", x.gather(4, 0), -1);
        due("gather(6, -1)", x.gather(6, -1), -2);
        due("gather(-1, -1)", x.gather(-1, -1), -2);
        due("gather(0, -2)", x.gather(0, -2), -2);
    }

    private static void lost() {
        TurnedHeadings x = with("string 1:act a,act a,act b,not act b,act a,act a;");
        // ENTRIES in order, by places: a of 0 (1, 3, 5 go); a of 1 (0, 3, 5 go); a of 4 (0, 2, 5), a of 5 (0, 2, 4); b of 2 (0, 3, 5).
        int[] places = {0, 1, 4, 5, 2};
        int[] want = {0b101010, 0b101001, 0b100101, 0b010101, 0b101001};
        for (int k = 0; k < 5; k++) {
            due("TERM of " + k, x.entry(k, 1), places[k]);
            due("lost(" + k + ")", x.lost(k), want[k]);
        }
        due("lost(5)", x.lost(5), -1);
        due("lost(-1)", x.lost(-1), -2);
        due("none", with(CARS).lost(0), 0);
    }

    private static void chain() {
        TurnedHeadings x = with("string 1:act a,act b;string 2:act b,act c;string 3:act d,act c;string 4:act e,act f;");
        due("one", x.chain(0, 0), 0);
        due("a to b", x.chain(0, 1), 1);
        due("a to c", x.chain(0, 2), 2);
        due("a to d", x.chain(0, 3), 3);
        due("d to a", x.chain(3, 0), 3);
        due("a to e", x.chain(0, 4), -1);
        due("chain(0, 6)", x.chain(0, 6), -2);
        due("chain(6, 0)", x.chain(6, 0), -2);
        due("chain(-1, -1)", x.chain(-1, -1), -2);
        StringBuilder text = new StringBuilder();
        for (int i = 0; i < 12; i++) {
            text.append("string ").append(i).append(":act ").append((char) ('a' + i)).append(",act ").append((char) ('b' + i)).append(";");
        }
        due("over 12 STRINGS", with(text.toString()).chain(0, 12), 12);
    }

    private static void groups() {
        due("none", new TurnedHeadings().groups(), 0);
        due("two", with("string 1:act a,act b;string 2:act e,act f;string 3:act d,act c;string 4:act b,act c;").groups(), 2);
        due("twelve", with(strings(12)).groups(), 12);
        due("by sees", with(strings(12) + "see a b;see b c;").groups(), 10);
    }

    private static void longest() {
        due("none", new TurnedHeadings().longest(), -1);
        TurnedHeadings x = with(CARS);
        due("print", x.print(0), 21);
        due("the first of two of 43", x.longest(), 7);
        due("OUT stays", out(x), CARS_LINES[0]);
        due("by ADDRESSES", with("string 10:act ab;string 11:act z;string 12:act z;").longest(), 1);
        due("all not", with("string 1:not act a;").longest(), -1);
    }

    private static void shown() {
        TurnedHeadings x = with(CARS);
        int[] leads = {3, 2, 2, 1, 1};
        int[] above = {4, 2, 0, 0, 4};
        int[] below = {2, 4, 6, 4, 1};
        for (int word = 0; word < 5; word++) {
            due("LEAD " + word, x.shown(word, 0), leads[word]);
            due("ABOVE " + word, x.shown(word, 1), above[word]);
            due("BELOW " + word, x.shown(word, 2), below[word]);
        }
        due("shown(0, 3)", x.shown(0, 3), -2);
        due("shown(0, -1)", x.shown(0, -1), -2);
        due("shown(5, 0)", x.shown(5, 0), -2);
        due("shown(-1, 0)", x.shown(-1, 0), -2);
        due("LINES, not ENTRIES", with(MERGED).shown(0, 0), 1);
        due("once a LINE", with("string 1:act a,not act b,not act a,not act b;").shown(1, 2), 1);
    }

    private static void twins() {
        TurnedHeadings x = with(MERGED);
        due("twins(0)", x.twins(0), 0b0110);
        due("twins(1)", x.twins(1), 0b0101);
        due("twins(3)", x.twins(3), 0);
        due("twins(4)", x.twins(4), -2);
        due("twins(-1)", x.twins(-1), -2);
        due("by one ENTRY", with("string 1:act a,act b;string 2:not act a,act b;string 3:act a,not act b;").twins(0), 0b110);
        due("through a third, not", with("string 1:act a,act b;string 2:not act a,act b;string 3:act a,not act b;").twins(1), 0b001);
    }

    private static void rarest() {
        TurnedHeadings x = with(MIXED);
        due("rarest(0)", x.rarest(0), 0);
        due("rarest(1)", x.rarest(1), 1);
        due("rarest(3)", x.rarest(3), 0);
        due("rarest(5)", x.rarest(5), -2);
        due("rarest(-1)", x.rarest(-1), -2);
        due("the last", with("string 1:act a,act b;string 2:act a;").rarest(0), 1);
        due("in all 12", with(strings(12).replaceAll("act .", "act a")).rarest(11), 0);
    }

    private static void crossed() {
        TurnedHeadings x = with(CARS);
        due("cars, doors", x.crossed(0, 1), 0b011);
        due("cars, texas", x.crossed(0, 4), 0b001);
        due("cars, cars", x.crossed(0, 0), 0b111);
        due("crossed(0, 5)", x.crossed(0, 5), -2);
        due("crossed(5, 0)", x.crossed(5, 0), -2);
        due("crossed(-1, 0)", x.crossed(-1, 0), -2);
        due("none", with(strings(2)).crossed(0, 1), 0);
    }

    private static void shared() {
        TurnedHeadings x = with(MIXED);
        int[] want = {1, 1, 2, 1, 0, 1};
        for (int role = 0; role < 6; role++) due("shared(" + role + ")", x.shared(role), want[role]);
        due("shared(6)", x.shared(6), -2);
        due("shared(-1)", x.shared(-1), -2);
        due("twice in one", with("string 1:act a,act a;").shared(3), 0);
        due("in two", with("string 1:act a;string 2:form a;").shared(3), 1);
    }

    public static void main(String[] args) {
        List<Runnable> tests = new ArrayList<>();
        tests.add(PromiseTest::newObject);
        tests.add(PromiseTest::feed);
        tests.add(PromiseTest::end);
        tests.add(PromiseTest::text);
        tests.add(PromiseTest::fault);
        tests.add(PromiseTest::count);
        tests.add(PromiseTest::string);
        tests.add(PromiseTest::term);
        tests.add(PromiseTest::letter);
        tests.add(PromiseTest::way);
        tests.add(PromiseTest::findWord);
        tests.add(PromiseTest::at);
        tests.add(PromiseTest::entry);
        tests.add(PromiseTest::row);
        tests.add(PromiseTest::line);
        tests.add(PromiseTest::address);
        tests.add(PromiseTest::head);
        tests.add(PromiseTest::print);
        tests.add(PromiseTest::printAll);
        tests.add(PromiseTest::octet);
        tests.add(PromiseTest::rebuilt);
        tests.add(PromiseTest::beginnings);
        tests.add(PromiseTest::having);
        tests.add(PromiseTest::sharing);
        tests.add(PromiseTest::alike);
        tests.add(PromiseTest::common);
        tests.add(PromiseTest::nearest);
        tests.add(PromiseTest::senses);
        tests.add(PromiseTest::beside);
        tests.add(PromiseTest::often);
        tests.add(PromiseTest::most);
        tests.add(PromiseTest::apart);
        tests.add(PromiseTest::cover);
        tests.add(PromiseTest::would);
        tests.add(PromiseTest::adds);
        tests.add(PromiseTest::drops);
        tests.add(PromiseTest::law);
        tests.add(PromiseTest::lead);
        tests.add(PromiseTest::swaps);
        tests.add(PromiseTest::see);
        tests.add(PromiseTest::forget);
        tests.add(PromiseTest::moves);
        tests.add(PromiseTest::undo);
        tests.add(PromiseTest::gather);
        tests.add(PromiseTest::lost);
        tests.add(PromiseTest::chain);
        tests.add(PromiseTest::groups);
        tests.add(PromiseTest::longest);
        tests.add(PromiseTest::shown);
        tests.add(PromiseTest::twins);
        tests.add(PromiseTest::rarest);
        tests.add(PromiseTest::crossed);
        tests.add(PromiseTest::shared);
        for (Runnable test : tests) {
            promise++;
            test.run();
        }
        System.out.println(wrong == 0 ? "PromiseTest: all answers are as due" : wrong + " answers are not as due");
        if (wrong != 0) System.exit(1);
    }
}
