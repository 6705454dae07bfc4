import java.util.LinkedHashMap;
import java.util.Map;
import java.util.function.ObjIntConsumer;

/** The boundaries that the promises 1 to 26 name: arguments just inside and just outside, what is full or empty, refused calls. */
public final class PromiseBounds {
    private static final Check CHECK = new Check();

    private static final int NONE = MailRouter.NONE;
    private static final int MAX = Integer.MAX_VALUE;
    private static final int MIN = Integer.MIN_VALUE;
    private static final Class<IllegalArgumentException> ARGUMENT = IllegalArgumentException.class;
    private static final Class<IllegalStateException> STATE = IllegalStateException.class;
    private static final Class<IndexOutOfBoundsException> INDEX = IndexOutOfBoundsException.class;

    /** Calls that take a node, with that node as one of their arguments and the node 0 or the place 0 as the other. */
    private static final Map<String, ObjIntConsumer<MailRouter>> CALLS_OF_NODES = new LinkedHashMap<>();

    static {
        CALLS_OF_NODES.put("name(n)", (x, n) -> x.name(n));
        CALLS_OF_NODES.put("kind(n)", (x, n) -> x.kind(n));
        CALLS_OF_NODES.put("isPrivate(n)", (x, n) -> x.isPrivate(n));
        CALLS_OF_NODES.put("linkCost(n, 0)", (x, n) -> x.linkCost(n, 0));
        CALLS_OF_NODES.put("linkCost(0, n)", (x, n) -> x.linkCost(0, n));
        CALLS_OF_NODES.put("linkCost(n, n)", (x, n) -> x.linkCost(n, n));
        CALLS_OF_NODES.put("memberCost(n, 0)", (x, n) -> x.memberCost(n, 0));
        CALLS_OF_NODES.put("memberCost(0, n)", (x, n) -> x.memberCost(0, n));
        CALLS_OF_NODES.put("memberCost(n, n)", (x, n) -> x.memberCost(n, n));
        CALLS_OF_NODES.put("cost(n)", (x, n) -> x.cost(n));
        CALLS_OF_NODES.put("costByRounds(n)", (x, n) -> x.costByRounds(n));
        CALLS_OF_NODES.put("steps(n)", (x, n) -> x.steps(n));
        CALLS_OF_NODES.put("state(n)", (x, n) -> x.state(n));
        CALLS_OF_NODES.put("nodeAt(n, 0)", (x, n) -> x.nodeAt(n, 0));
        CALLS_OF_NODES.put("costAt(n, 0)", (x, n) -> x.costAt(n, 0));
        CALLS_OF_NODES.put("stepAt(n, 0)", (x, n) -> x.stepAt(n, 0));
        CALLS_OF_NODES.put("isBack(n, 0)", (x, n) -> x.isBack(n, 0));
        CALLS_OF_NODES.put("isBack(0, n)", (x, n) -> x.isBack(0, n));
        CALLS_OF_NODES.put("isBack(n, n)", (x, n) -> x.isBack(n, n));
        CALLS_OF_NODES.put("print(n)", (x, n) -> x.print(n));
    }

    /** A router with three nodes, an out, a tape and a fault told. */
    private static MailRouter busy() {
        MailRouter x = Check.router("a", "a b(1)", "b @c(2)");
        Check.feed(x, "1/0");
        CHECK.dueThrow("value", STATE, () -> x.value());
        x.print(2);
        Check.feed(x, "b c(3);c a(4)");
        return x;
    }

    /** A router with all the 24 nodes that there may be, the home the first of them. */
    private static MailRouter full() {
        StringBuilder text = new StringBuilder("a ");
        for (char c = 'b'; c <= 'x'; c++) {
            text.append(c).append(c == 'x' ? "" : ",");
        }
        return Check.router("a", text.toString());
    }

    // ---- 1: a new object

    /** "Begins with empty files, an empty tape and out, and without a home." */
    private static void aNewObject() {
        MailRouter x = new MailRouter();
        CHECK.due("fault", x.fault(false), 0);
        CHECK.due("place", x.fault(true), 0);
        CHECK.due("home", x.home(), NONE);
        CHECK.due("nodes", x.nodes(), 0);
        for (int i = -1; i < 3; i++) {
            CHECK.due("word " + i, x.word(i), 0);
        }
        for (int file = 0; file < 4; file++) {
            CHECK.due("drop", x.drop(file), 0);
        }
        CALLS_OF_NODES.forEach((call, of) -> CHECK.dueThrow("a new object's " + call, INDEX, () -> of.accept(x, 0)));
        CHECK.due("feed", x.feed(98, 1), 1);
        CHECK.due("lookUp without nodes", x.lookUp(), NONE);
        CHECK.due("an empty tape", new MailRouter().rewrite(), 0);
        CHECK.due("lookUp of an empty tape", new MailRouter().lookUp(), NONE);
        CHECK.due("load of an empty tape", new MailRouter().load(0), 0);
        CHECK.dueThrow("value of an empty tape", STATE, () -> new MailRouter().value());
        CHECK.dueThrow("setHome of an empty tape", ARGUMENT, () -> new MailRouter().setHome());
        CHECK.due("without a home", Check.router("", "a b").home(), NONE);
    }

    /** Each object is one for itself. */
    private static void oneForItself() {
        MailRouter x = busy();
        MailRouter y = new MailRouter();
        CHECK.due("a new one beside one that is used", Check.everything(y), Check.everything(new MailRouter()));
        CHECK.due("the used one", Check.everything(x), Check.everything(busy()));
    }

    /** "each has the text that was loaded last": of the texts before nothing is left, also if all was asked about them. */
    private static void ofTheTextsBeforeNothingIsLeft() {
        String[] texts = {"", "a b(1);c d(2)", "n={a,b}(2);m=@{b,c}", "a=b,c;d=c", "dead{a!b,a,b};a b(5);b c", "gated{n};n={a}(1);b a", ".a={b};.a c;d .a",
            "private{a,b};a b;b c;c a", "a @b(3);b @c(3);c d", "b a(7);c b(8)", "a b(1);b c(2);c d(3)", "c=b;b a", "n=@{c,a}(3);a d"};
        String[] faulty = {"a b,?", "a b((1", "a b(7*(8+9*(1", "a b(1000000+1", "a=@{b,c", "dead{a!b,c", "n={a};gated{n};private{n", "abcdefghi a"};
        for (String text : texts) {
            String alone = Check.everything(loaded(text));
            for (String before : texts) {
                CHECK.due("\"" + text + "\" behind \"" + before + "\"", Check.everything(loaded(before, text)), alone);
            }
            for (String before : faulty) {
                CHECK.due("\"" + text + "\" behind \"" + before + "\"", Check.everything(loaded(before, text)), alone);
            }
            for (String home : new String[] {"b", "c", "n", "z"}) {
                MailRouter x = loaded(text);
                askAll(x);
                x.rewrite();
                Check.setHome(x, home);
                MailRouter y = loaded(text);
                Check.setHome(y, home);
                CHECK.due("the home " + home + " behind a in \"" + text + "\"", Check.everything(x), Check.everything(y));
            }
        }
    }

    /** A router with the home a whose file 2 was loaded with these texts, and which was asked about each of them but the last. */
    private static MailRouter loaded(String... texts) {
        MailRouter x = new MailRouter();
        Check.setHome(x, "a");
        for (String text : texts) {
            askAll(x);
            Check.feed(x, text);
            try {
                x.load(2);
            } catch (IllegalStateException e) {
                CHECK.due("the file behind a fault", x.nodes(), 0);
            }
        }
        x.rewrite();
        return x;
    }

    private static void askAll(MailRouter x) {
        for (int node = 0; node < x.nodes(); node++) {
            x.print(node);
            x.costByRounds(node);
        }
    }

    /** "An object is used for at most 512 calls": up to the last of them all answers are as due. */
    private static void upToTheLastOf512Calls() {
        MailRouter x = new MailRouter();
        Check.setHome(x, "a");
        for (int turn = 0; turn < 170; turn++) {
            int cost = 100 + turn;
            Check.feed(x, "a b(" + cost + ")");
            CHECK.due("load of turn " + turn, x.load(0), 1);
            CHECK.due("cost of turn " + turn, x.cost(1), cost);
        }
        MailRouter y = new MailRouter();
        for (int turn = 0; turn < 128; turn++) {
            Check.feed(y, "((((7/0");
            CHECK.dueThrow("value of turn " + turn, STATE, () -> y.value());
            Check.feed(y, "((7+8))");
            CHECK.due("value of turn " + turn, y.value(), 15);
        }
    }

    // ---- 2: feed

    /** "The n lowest of eight bytes come behind the tape, the lowest one first. Returns how many bytes it has then." */
    private static void theNLowest() {
        String eight = "hgfedcba";
        for (int n = 1; n <= 8; n++) {
            MailRouter x = new MailRouter();
            CHECK.due("feed of " + n, x.feed(0x6162636465666768L, n), n);
            CHECK.due("feed of " + n + " again", x.feed(0x6162636465666768L, n), 2 * n);
            int length = x.rewrite();
            CHECK.due("the tape of " + n, Check.out(x, length), eight.substring(0, n).repeat(2));
            CHECK.due("feed of -1", x.feed(-1, n), n);
            length = x.rewrite();
            CHECK.due("the highest bytes", Check.out(x, length), "\u00ff".repeat(n));
            CHECK.due("feed of 0", x.feed(0, n), n);
            CHECK.due("the lowest bytes", x.rewrite(), n);
            CHECK.due("are 0", x.word(0), 0);
            CHECK.due("feed of the least", x.feed(Long.MIN_VALUE, n), n);
            x.rewrite();
            CHECK.due("the eighth byte of the least", x.word(0), n == 8 ? Long.MIN_VALUE : 0);
        }
    }

    /** "Throws IllegalArgumentException if n is not 1 to 8; IllegalStateException if there would be more than 600" */
    private static void feedThrows() {
        for (int n : new int[] {0, 9, -1, 10, 16, 64, 256, 257, -8, MAX, MIN, MIN + 1, MAX - 600}) {
            CHECK.dueRefused("feed of " + n, PromiseBounds::busy, x -> x.feed(97, n), ARGUMENT, false);
            CHECK.dueRefused("feed of " + n + " to a full tape", PromiseBounds::busyWithAFullTape, x -> x.feed(97, n), ARGUMENT, false);
        }
        for (int n = 1; n <= 8; n++) {
            int size = n;
            CHECK.dueRefused("feed of " + n + " to a full tape", PromiseBounds::busyWithAFullTape, x -> x.feed(97, size), STATE, false);
        }
    }

    private static MailRouter busyWithAFullTape() {
        MailRouter x = busy();
        Check.feed(x, "x".repeat(587));
        return x;
    }

    // ---- 3 to 6: load, drop, value, fault

    /** "Returns how many statements it has." and how many it had, of drop. */
    private static void howManyStatements() {
        for (int count : new int[] {0, 1, 2, 39, 40}) {
            for (int file = 0; file < 4; file++) {
                MailRouter x = Check.router("", "a b", "a b", "a b", "a b");
                CHECK.due("load of " + count, Check.load(x, file, "\n" + "b c;".repeat(count) + "#;;"), count);
                CHECK.due("drop of " + count, x.drop(file), count);
                CHECK.due("drop of an empty one", x.drop(file), 0);
                CHECK.due("drop of another one", x.drop((file + 1) % 4), 1);
            }
        }
    }

    /** "Throws IllegalStateException if it has a fault, which is told then; the file stays as it was" */
    private static void loadThrows() {
        String[] texts = {"a", "abcdefghi a", "a b(NOW)", "a b(1/0)", "a b;".repeat(41), "z y,x,w,v,u,t,s,r,q,p,o,n,m,l,k,j,i,h,g,f"};
        int[] places = {1, 0, 4, 5, 160, 41};
        for (int code = 1; code <= 6; code++) {
            String text = texts[code - 1];
            for (int number = 0; number < 4; number++) {
                int file = number;
                MailRouter x = withFiles(text, file);
                CHECK.dueThrow("load of the fault " + code, STATE, () -> x.load(file));
                CHECK.due("its code", x.fault(false), code);
                CHECK.due("its place", x.fault(true), places[code - 1]);
                CHECK.dueRefused("load of the fault " + code + " again", () -> withFilesAndFault(text, file), y -> y.load(file), STATE, true);
            }
            CHECK.dueRefused("load of the fault " + code + " to no file", () -> withFiles(text, 0), y -> y.load(4), INDEX, true);
        }
        for (int file = 0; file < 4; file++) {
            CHECK.due("one node less goes in", Check.load(withFiles("", file), file, texts[5].substring(0, 39)), 1);
        }
    }

    /** Four nodes, which all files tell of. */
    private static MailRouter withFiles(String tape, int file) {
        String[] texts = {"a b(1);c d", "d a;b c(2)", "a b,c,d", "d c,b,a(5)"};
        texts[file] = "a b(3);b @c(4);c=d";
        MailRouter x = Check.router("a", texts);
        x.print(1);
        Check.feed(x, tape);
        return x;
    }

    private static MailRouter withFilesAndFault(String text, int file) {
        MailRouter x = withFiles(text, file);
        CHECK.dueThrow("load ahead", STATE, () -> x.load(file));
        Check.feed(x, text);
        return x;
    }

    /** "The text of a file becomes empty." */
    private static void dropEmpties() {
        MailRouter x = Check.router("c", "a b(5)", "b c(1);a b(3)", "c d", "private{a};a d");
        CHECK.due("nodes", x.nodes(), 5);
        CHECK.due("drop(1)", x.drop(1), 2);
        CHECK.due("its link is gone", x.linkCost(0, 1), 5);
        CHECK.due("the home has another number", x.home(), 2);
        CHECK.due("drop(0)", x.drop(0), 1);
        CHECK.due("nodes of the others", x.nodes(), 3);
        CHECK.due("the home once more", x.home(), 0);
        CHECK.due("drop(2)", x.drop(2), 1);
        CHECK.due("the home is no more", x.home(), NONE);
        CHECK.due("drop(3)", x.drop(3), 2);
        CHECK.due("no nodes", x.nodes(), 0);
        CHECK.due("the home comes back", Check.load(x, 3, "c e"), 1);
        CHECK.due("as the node of its name", x.home(), 0);
    }

    /** "Works a SUM out, which is the whole tape (with blanks and #, if any). Returns its value, as it is." */
    private static void valueAsItIs() {
        for (int value : new int[] {-1000000, -999999, -1, 0, 1, 999999, 1000000}) {
            CHECK.dueValue((value < 0 ? "0-" : "") + Math.abs(value), value);
            CHECK.dueValue(" \t(" + (value < 0 ? "0 - " : "") + Math.abs(value) + "\t) # 1/0", value);
        }
        CHECK.dueValue("HIGH", -5);
        String[] faulty = {"", "1 1", "NOW", "1000001", "1/0", "1;", "1\n", ";1", "a", "1)"};
        for (String text : faulty) {
            CHECK.dueRefused("value of \"" + text + "\"", () -> aheadOfTheFault(text), x -> x.value(), STATE, true);
        }
    }

    /** A sum means the same behind any other one, be that with a fault or without. */
    private static void valueBehindAnotherOne() {
        String[] sums = {"1", "2+3*4", "(1+2)*3", "9-8/(7-5)", "((1", "(7*(8+9*(1", "1+", "5*", "2-(3", "7/0", "1000000+1", "NOW", "", "1)", "1;"};
        for (String before : sums) {
            for (String sum : sums) {
                MailRouter x = new MailRouter();
                valueOrFault(x, before);
                CHECK.due(sum + " behind " + before, valueOrFault(x, sum), valueOrFault(new MailRouter(), sum));
            }
        }
    }

    private static String valueOrFault(MailRouter x, String sum) {
        Check.feed(x, sum);
        try {
            return x.value() + " " + x.fault(false) + " " + x.fault(true);
        } catch (IllegalStateException e) {
            return "fault " + x.fault(false) + " " + x.fault(true);
        }
    }

    private static MailRouter aheadOfTheFault(String text) {
        MailRouter x = Check.router("a", "a b(1)");
        x.print(1);
        Check.feed(x, text);
        CHECK.dueThrow("value ahead", STATE, () -> x.value());
        Check.feed(x, text);
        return x;
    }

    private static void dueFault(String when, MailRouter x, int code, int place) {
        CHECK.due("code " + when, x.fault(false), code);
        CHECK.due("place " + when, x.fault(true), place);
    }

    /** "the code of the fault of the latest load() or value() that had one, or its place; 0 before, and behind one without" */
    private static void theLatestFault() {
        MailRouter x = new MailRouter();
        dueFault("before", x, 0, 0);
        Check.load(x, 0, "a b");
        dueFault("behind a load without", x, 0, 0);
        CHECK.dueThrow("value", STATE, () -> Check.value(x, "7 / 0"));
        dueFault("of value", x, 4, 2);
        CHECK.dueThrow("load", STATE, () -> Check.load(x, 1, "a b;? ?"));
        dueFault("of load", x, 1, 4);
        CHECK.dueThrow("load of no file", INDEX, () -> Check.load(x, 4, "a b"));
        CHECK.dueThrow("load of no file", INDEX, () -> Check.load(x, -1, "abcdefghi"));
        dueFault("behind a load of no file", x, 1, 4);
        CHECK.dueThrow("setHome", ARGUMENT, () -> Check.setHome(x, "B"));
        Check.setHome(x, "a");
        Check.lookUp(x, "B");
        x.drop(2);
        x.rewrite();
        CHECK.dueThrow("name", INDEX, () -> x.name(2));
        dueFault("behind other calls", x, 1, 4);
        CHECK.due("value without", Check.value(x, "0"), 0);
        dueFault("behind a value without", x, 0, 0);
        CHECK.dueThrow("load", STATE, () -> Check.load(x, 1, "abcdefghi b"));
        dueFault("at the place 0", x, 2, 0);
        CHECK.due("load without", Check.load(x, 1, ""), 0);
        dueFault("behind a load without", x, 0, 0);
    }

    // ---- 7 to 9: setHome, home, lookUp

    /** "the tape is not just a NAME of at most 8 bytes; the home stays", and "Returns that node; NONE if there is none now." */
    private static void justAName() {
        for (int length = 1; length <= 8; length++) {
            String name = ".-9zzzaa".substring(0, length);
            MailRouter x = Check.router("", "b c", "c " + name);
            CHECK.due("setHome of " + name, Check.setHome(x, name), 2);
            CHECK.due("home", x.home(), 2);
            CHECK.due("lookUp of " + name, Check.lookUp(x, name), 2);
            CHECK.due("setHome of another one", Check.setHome(x, "b"), 0);
            CHECK.due("setHome of none now", Check.setHome(x, "nobody"), NONE);
            CHECK.due("no home", x.home(), NONE);
            CHECK.dueCost(x, "b", NONE);
        }
        String[] wrong = {"", "abcdefghi", "a".repeat(600), " b", "b ", "b;", ";", "\n", "b\n", "#", "b#", "b#c", "B", "7", "7b", "-", "-b", "b,c",
            "b!", "@b", "b=c", "b{", "b\0", "\0", "\u00e9", "b\u00e9", "b_c", "LOW", "abcdefgh ", " abcdefgh", "b c"};
        for (String tape : wrong) {
            CHECK.dueRefused("setHome of \"" + tape + "\"", () -> withTape(tape), x -> x.setHome(), ARGUMENT, true);
            CHECK.due("lookUp of \"" + tape + "\"", withTape(tape).lookUp(), NONE);
        }
        for (String word : new String[] {"dead", "private", "gated"}) {
            CHECK.due("setHome of " + word, Check.setHome(Check.router("", "a " + word), word), 1);
        }
    }

    private static MailRouter withTape(String tape) {
        MailRouter x = Check.router("b", "b c(1);c d");
        x.print(2);
        Check.feed(x, tape);
        return x;
    }

    /** "The home is from now on the node that has the tape as its name and is not private, as long as there is one." */
    private static void fromNowOn() {
        MailRouter x = Check.router("", "private{a};a b", "");
        CHECK.due("a private node is none", Check.setHome(x, "a"), NONE);
        CHECK.due("home", x.home(), NONE);
        Check.load(x, 1, "c a");
        CHECK.due("one that is not private", x.home(), 3);
        CHECK.dueCost(x, "a", 0);
        Check.load(x, 1, "private{a};c a");
        CHECK.due("private again", x.home(), NONE);
        CHECK.dueCost(x, "b", NONE);
        Check.load(x, 0, "a b");
        CHECK.due("not private again", x.home(), 0);
        CHECK.dueThrow("setHome of no name", ARGUMENT, () -> Check.setHome(x, "B"));
        CHECK.due("the home stays", x.home(), 0);
        CHECK.due("another one", Check.setHome(x, "b"), 1);
        Check.load(x, 2, "a d");
        x.drop(0);
        CHECK.due("b is no more", x.home(), NONE);
        CHECK.dueCost(x, "a", NONE);
    }

    /** "Returns the node that has the tape as its name and is not private; NONE if there is none." */
    private static void lookUp() {
        MailRouter x = Check.router("", "private{a,b};b c", "d a");
        CHECK.due("a node of that name beside a private one", Check.lookUp(x, "a"), 4);
        CHECK.due("a private node alone", Check.lookUp(x, "b"), NONE);
        CHECK.due("another node", Check.lookUp(x, "c"), 2);
        for (String none : new String[] {"", "e", "aa", "A", "a ", " a", "a\0", "abcdefgha", "a".repeat(600)}) {
            CHECK.due("lookUp of \"" + none + "\"", Check.lookUp(x, none), NONE);
        }
        x = full();
        CHECK.due("the first of 24", Check.lookUp(x, "a"), 0);
        CHECK.due("the last of 24", Check.lookUp(x, "x"), 23);
        CHECK.due("behind the last", Check.lookUp(x, "y"), NONE);
    }

    // ---- 10 to 25: nodes and places

    /** "An IndexOutOfBoundsException is thrown if there is no such file, node or place." */
    private static void noSuchNode() {
        int[] none = {-1, 3, 4, 23, 24, 25, 31, 32, 33, 64, 96, 256, 1 << 29, 1 << 30, MAX, MAX - 1, MIN, MIN + 1, -2, -24, -32};
        CALLS_OF_NODES.forEach((call, of) -> {
            for (int node = 0; node < 3; node++) {
                int n = node;
                MailRouter x = busy();
                CHECK.dueThrow(call + " of " + n, null, () -> of.accept(x, n));
            }
            for (int n : none) {
                CHECK.dueThrow(call + " of " + n, INDEX, () -> of.accept(busy(), n));
            }
            CHECK.dueRefused(call + " of -1", PromiseBounds::busy, x -> of.accept(x, -1), INDEX, false);
            CHECK.dueRefused(call + " of 3", PromiseBounds::busy, x -> of.accept(x, 3), INDEX, false);
            MailRouter x = full();
            CHECK.dueThrow(call + " of the last of 24", null, () -> of.accept(x, 23));
            CHECK.dueThrow(call + " behind the last of 24", INDEX, () -> of.accept(x, 24));
            CHECK.dueThrow(call + " ahead of the first", INDEX, () -> of.accept(x, -1));
            x.drop(0);
            CHECK.dueThrow(call + " without nodes", INDEX, () -> of.accept(x, 0));
        });
    }

    /** The same: places. */
    private static void noSuchPlace() {
        MailRouter x = Check.router("a", "a b(1);b @c(2);d=e");
        for (int node = 0; node < 3; node++) {
            int n = node;
            CHECK.due("steps", x.steps(n), n);
            CHECK.due("the node at its last place", x.nodeAt(n, n), n);
            CHECK.due("the cost at its last place", x.costAt(n, n), new int[] {0, 1, 3}[n]);
            CHECK.due("the step at its last place", x.stepAt(n, n), n == 0 ? MailRouter.BEGIN : MailRouter.LINK);
            CHECK.due("the node at its first place", x.nodeAt(n, 0), 0);
            CHECK.due("the cost at its first place", x.costAt(n, 0), 0);
            CHECK.due("the step at its first place", x.stepAt(n, 0), MailRouter.BEGIN);
            for (int place : new int[] {-1, n + 1, n + 2, 24, 96, 97, MAX, MIN}) {
                CHECK.dueThrow("nodeAt(" + n + ", " + place + ")", INDEX, () -> x.nodeAt(n, place));
                CHECK.dueThrow("costAt(" + n + ", " + place + ")", INDEX, () -> x.costAt(n, place));
                CHECK.dueThrow("stepAt(" + n + ", " + place + ")", INDEX, () -> x.stepAt(n, place));
            }
        }
        for (int place : new int[] {-1, 0, 1, MIN, MAX}) {
            CHECK.dueThrow("nodeAt without a route", INDEX, () -> x.nodeAt(3, place));
            CHECK.dueThrow("costAt without a route", INDEX, () -> x.costAt(3, place));
            CHECK.dueThrow("stepAt without a route", INDEX, () -> x.stepAt(3, place));
        }
        for (int place : new int[] {-1, 3}) {
            CHECK.dueRefused("nodeAt(2, " + place + ")", PromiseBounds::busy, y -> y.nodeAt(2, place), INDEX, false);
            CHECK.dueRefused("costAt(2, " + place + ")", PromiseBounds::busy, y -> y.costAt(2, place), INDEX, false);
            CHECK.dueRefused("stepAt(2, " + place + ")", PromiseBounds::busy, y -> y.stepAt(2, place), INDEX, false);
        }
    }

    /** "Returns how many nodes there are." */
    private static void nodes() {
        MailRouter x = new MailRouter();
        CHECK.due("none", x.nodes(), 0);
        Check.load(x, 0, "gated{a}");
        CHECK.due("one", x.nodes(), 1);
        Check.load(x, 1, "private{a}");
        CHECK.due("a private one, too", x.nodes(), 2);
        CHECK.due("24", full().nodes(), 24);
    }

    /** "The out becomes the name of a node; how many bytes it has." */
    private static void name() {
        for (int length = 1; length <= 8; length++) {
            String name = "a.-0z9b.".substring(0, length);
            MailRouter x = Check.router("", "abcdefgh " + name);
            CHECK.due("the bytes of abcdefgh", x.name(0), 8);
            CHECK.due("the bytes of " + name, x.name(1), length);
            CHECK.due("its name", Check.out(x, length), name);
        }
        MailRouter x = Check.router("", "private{a}", "private{a}", "a b");
        for (int node = 0; node < 3; node++) {
            CHECK.due("a name that several have", x.name(node), 1);
            CHECK.due("it", x.word(0), 97);
            CHECK.due("is private", x.isPrivate(node), node < 2);
        }
        CHECK.due("the name of the last of 24", full().name(23), 1);
    }

    /** "the cost of the link that counts from a node to another one, dead or not; NONE if there is none" */
    private static void linkCost() {
        MailRouter x = Check.router("a", "a b(0),c(1000000),d;dead{a!b,a!c,a};e=a;n={a,b};a a(1)");
        CHECK.due("the least", x.linkCost(0, 1), 0);
        CHECK.due("the most", x.linkCost(0, 2), 1000000);
        CHECK.due("without (SUM)", x.linkCost(0, 3), 4000);
        CHECK.due("the other way", x.linkCost(1, 0), NONE);
        CHECK.due("an alias is none", x.linkCost(0, Check.lookUp(x, "e")), NONE);
        CHECK.due("a member is none", x.linkCost(0, Check.lookUp(x, "n")), NONE);
        CHECK.due("a net is none of its members", x.linkCost(Check.lookUp(x, "n"), 0), NONE);
        for (int node = 0; node < x.nodes(); node++) {
            CHECK.due("none to itself", x.linkCost(node, node), NONE);
        }
        CHECK.due("a link back is none", Check.router("b", "a b").linkCost(1, 0), NONE);
    }

    /** "the cost of a member, gated or not; NONE if it is none of that node" */
    private static void memberCost() {
        MailRouter x = Check.router("", "n={a}(0);n={b}(1000000);n={c};gated{n};.d={a,n}(7);n=e;n f;n={n}(3)");
        CHECK.due("the least", x.memberCost(1, 0), 0);
        CHECK.due("the most", x.memberCost(2, 0), 1000000);
        CHECK.due("without (SUM)", x.memberCost(3, 0), 4000);
        CHECK.due("of a domain", x.memberCost(1, 4), 7);
        CHECK.due("a net of a domain", x.memberCost(0, 4), 7);
        CHECK.due("none of a domain", x.memberCost(2, 4), NONE);
        CHECK.due("the other way", x.memberCost(0, 1), NONE);
        CHECK.due("of a host", x.memberCost(1, 2), NONE);
        CHECK.due("an alias is none", x.memberCost(5, 0), NONE);
        CHECK.due("a link is none", x.memberCost(6, 0), NONE);
        for (int node = 0; node < x.nodes(); node++) {
            CHECK.due("none of itself", x.memberCost(node, node), NONE);
        }
    }

    /** cost, costByRounds, steps, state: "NONE if it has none"; print: "empty if it has none" */
    private static void noneIfItHasNone() {
        String[] homes = {"a", "", "z", "b"};
        for (String home : homes) {
            MailRouter x = Check.router(home, "a c(1);b=d");
            boolean first = home.equals("a");
            boolean second = home.equals("b");
            int[][] due = {{first ? 0 : NONE, first ? 0 : NONE}, {first ? 1 : NONE, first ? 1 : NONE},
                {second ? 0 : NONE, second ? 0 : NONE}, {second ? 0 : NONE, second ? 1 : NONE}};
            for (int node = 0; node < 4; node++) {
                x.name(0);
                String what = " of " + node + " from \"" + home + "\"";
                CHECK.due("cost" + what, x.cost(node), due[node][0]);
                CHECK.due("costByRounds" + what, x.costByRounds(node), due[node][0]);
                CHECK.due("steps" + what, x.steps(node), due[node][1]);
                CHECK.due("state" + what, x.state(node), due[node][0] == NONE ? NONE : 0);
                int length = x.print(node);
                String printed = due[node][0] == NONE ? "" : node == 1 ? "c!%" : "%";
                CHECK.due("print" + what, length, printed.length());
                CHECK.due("the out" + what, Check.out(x, length), printed);
            }
        }
    }

    /** "Tells whether there is a link back from a node to another one." */
    private static void isBack() {
        MailRouter x = Check.router("a", "b a;a c;c a;d=a");
        for (int from = 0; from < x.nodes(); from++) {
            for (int to = 0; to < x.nodes(); to++) {
                CHECK.due("isBack(" + from + ", " + to + ")", x.isBack(from, to), from == 1 && to == 0);
            }
        }
    }

    // ---- 24 to 26: the out

    /** "The out becomes the printed route of a node", "the tape as an address, rewritten": whole, whatever it was before */
    private static void theOutBecomes() {
        MailRouter x = Check.router("a", "a abcdefgh(1);b=c");
        Check.feed(x, "x".repeat(600));
        CHECK.due("a long out", x.rewrite(), 600);
        CHECK.due("its last word", x.word(74), 0x7878787878787878L);
        CHECK.due("a printed route", x.print(1), 10);
        CHECK.due("it", Check.out(x, 10), "abcdefgh!%");
        CHECK.due("nothing of the long one", x.word(74), 0);
        CHECK.due("an empty one", x.print(2), 0);
        CHECK.due("nothing of the printed route", x.word(0), 0);
        CHECK.due("nothing of it", x.word(1), 0);
        x.print(1);
        CHECK.due("an empty address", x.rewrite(), 0);
        CHECK.due("nothing left", x.word(0), 0);
        x.print(1);
        CHECK.due("a name", x.name(0), 1);
        CHECK.due("nothing else", x.word(0), 97);
        CHECK.due("nothing else", x.word(1), 0);
    }

    /** "Eight bytes of the out, from 8 i on, the first one lowest, 0 behind its end; 0 when there are none, also for i below 0." */
    private static void word() {
        for (int length = 0; length <= 17; length++) {
            MailRouter x = new MailRouter();
            String bytes = "\u0081\u0082\u0083\u0084\u0085\u0086\u0087\u0088\u0089\u008a\u008b\u008c\u008d\u008e\u008f\u0090\u0091".substring(0, length);
            Check.feed(x, bytes);
            CHECK.due("length", x.rewrite(), length);
            for (int i = 0; i < 4; i++) {
                long want = 0;
                for (int k = 7; k >= 0; k--) {
                    want = want << 8 | (8 * i + k < length ? bytes.charAt(8 * i + k) : 0);
                }
                CHECK.due("word " + i + " of " + length, x.word(i), want);
            }
        }
        MailRouter x = new MailRouter();
        Check.feed(x, "\u00ff".repeat(600));
        x.rewrite();
        CHECK.due("the first word", x.word(0), -1);
        CHECK.due("the last word", x.word(74), -1);
        int[] none = {75, 76, 149, 150, 151, 200, 1199, 1200, 1201, -1, -2, -75, 1 << 16, 1 << 26, 1 << 28, (1 << 28) + 1, 1 << 29, (1 << 29) + 1,
            1 << 30, (1 << 30) + 1, MAX, MAX - 1, MIN, MIN + 1, -(1 << 29), -(1 << 29) + 1, -(1 << 28)};
        for (int i : none) {
            CHECK.due("word " + i, x.word(i), 0);
        }
        for (int i : new int[] {-1, 75, 1 << 29}) {
            CHECK.due("the out stays", x.word(0), -1);
            CHECK.due("word " + i + " once more", x.word(i), 0);
        }
    }

    public static void main(String[] args) {
        aNewObject();
        oneForItself();
        ofTheTextsBeforeNothingIsLeft();
        upToTheLastOf512Calls();
        theNLowest();
        feedThrows();
        howManyStatements();
        loadThrows();
        dropEmpties();
        valueAsItIs();
        valueBehindAnotherOne();
        theLatestFault();
        justAName();
        fromNowOn();
        lookUp();
        noSuchNode();
        noSuchPlace();
        nodes();
        name();
        linkCost();
        memberCost();
        noneIfItHasNone();
        isBack();
        theOutBecomes();
        word();
        CHECK.end();
    }
}
