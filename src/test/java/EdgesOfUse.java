/** What the document's 'What it is' tells, and the boundary case that it names: the last call that an object is good for. */
final class EdgesOfUse {
    private static final int NONE = Edge.NONE;

    private static void last(int want, String name, int... arguments) {
        lastAmongQuestions(want, name, arguments);
        lastAmongActs(name.equals("undo") ? 9 : want, name, arguments);
    }

    /** WORDS a, b, c; LINES a: b 6; b: c 7; b, a 6; c, b 7. One act; a FAULT at 0; OUT is "a: b 6", the TAPE "abc". */
    private static Edge ready() {
        return Edge.use("An object is used for at most 512 calls after it has been made").text("see z a;string 5:act a,act b;string 7:act b,form c;")
            .is(5, "moves", 0, 6).is(6, "print", 0).say("x").is(-4, "adds").say("abc");
    }

    private static void lastAmongQuestions(int want, String name, int... arguments) {
        Edge edge = ready();
        while (edge.left() > 1) edge.is(2, "count", 0);
        edge.is(want, name, arguments);
    }

    /** No TERM is a place: its law changes no LINE. */
    private static void lastAmongActs(int want, String name, int... arguments) {
        Edge edge = ready();
        int way = 0;
        while (edge.left() > 1) {
            edge.is(way, "law", 0, (way + 1) % 3);
            way = (way + 1) % 3;
        }
        edge.is(want, name, arguments);
    }

    private static void inShort() {
        Edge.use("with words that stand for others").text("see b a;see c b;string 1:act c,not act d via b;").find(0, "a").find(0, "b").find(0, "c").lines("a: a d 1");
        Edge.use("every term that may leads once, what is wider behind it, what is narrower below; doubles go")
            .text("string 1:place a,not thing b,part c,part c,form d;").is(4, "count", 4)
            .lines("a: b. c. d 1", "c, b, a: d 1", "d, c, b, a 1").is(2, "head", 1, 2);
        Edge.use("merged where they are alike, printed with joins")
            .text("string 2:act a,not form b via x;string 1:act a,not form b via y;").lines("a: y b 1,2");
        Edge.use("strings, laws, words changed by hand, taken back").text("string 1:act a,act b;").adds(1, "2:act a;").is(0, "law", 3, 1).is(1, "see", 0, 1)
            .lines("b 1,2").is(2, "undo").lines("a 2", "a: b 1", "b: a 1").is(1, "undo").lines("a 2", "a: b 1", "b, a 1").is(0, "undo").lines("a: b 1", "b, a 1");
    }

    static void all() {
        inShort();
        last(23, "feed", 0, 0, 0, 0, 0);
        last(2, "end", 2);
        last(-4, "text");
        last(1, "fault", 0);
        last(3, "count", 3);
        last(6, "string", 0, 0);
        last(3, "term", 0, 0, 0);
        last(1, "letter", 0, 0);
        last(0, "way", 5);
        last(NONE, "find");
        last(0, "at", 6);
        last(1, "entry", 1, 0);
        last(1, "row", 0, 1, 0);
        last(1, "line", 2, 3);
        last(6, "address", 0, 0);
        last(2, "head", 1, 1);
        last(6, "print", 1);
        last(4, "printAll");
        last('a', "octet", 0);
        last(1, "rebuilt", 1);
        last(0, "begins", -1);
        last(1, "having", 0, -1);
        last(3, "sharing", 0, 2);
        last(0, "alike", 0, 1);
        last(1, "common", 0, 1, 0);
        last(1, "nearest", 0);
        last(2, "senses");
        last(1, "beside", 1, 0, -1);
        last(2, "often", 1);
        last(1, "most", 0);
        last(1, "apart", 0);
        last(3, "cover");
        last(4, "would", 3, 2, 1);
        last(-4, "adds");
        last(1, "drops", 0);
        last(0, "law", 3, 1);
        last(1, "lead", 0, 0, 0);
        last(1, "swaps", 0, 0, 1);
        last(2, "see", 0, 1);
        last(0, "forget", 0);
        last(6, "moves", 0, 8);
        last(0, "undo");
        last(2, "gather", 3, -1);
        last(0, "lost", 0);
        last(2, "chain", 0, 2);
        last(1, "groups");
        last(0, "longest");
        last(1, "shown", 0, 0);
        last(0, "twins", 0);
        last(0, "rarest", 0);
        last(1, "crossed", 0, 1);
        last(1, "shared", 3);
    }
}
