/** Promises 1 to 4 and 6 to 9: the new object, the tape, the files, the home. */
public final class TapeTest {
    private static final Check CHECK = new Check();

    private static void newObject() {
        MailRouter x = new MailRouter();
        CHECK.due("new: nodes", x.nodes(), 0);
        CHECK.due("new: home", x.home(), MailRouter.NONE);
        CHECK.due("new: fault", x.fault(false), 0);
        CHECK.due("new: place", x.fault(true), 0);
        CHECK.due("new: word(0)", x.word(0), 0);
        for (int file = 0; file < 4; file++) {
            CHECK.due("new: drop", x.drop(file), 0);
        }
        CHECK.due("new: empty tape", x.rewrite(), 0);
        CHECK.due("new: load of the empty tape", x.load(0), 0);
        CHECK.due("new: feed", x.feed(0, 1), 1);
    }

    private static void feed() {
        MailRouter x = new MailRouter();
        CHECK.due("feed one", x.feed(0x6867666564636261L, 1), 1);
        CHECK.due("feed eight", x.feed(0x6867666564636261L, 8), 9);
        CHECK.due("feed three", x.feed(-1L, 3), 12);
        CHECK.due("the lowest byte comes first", x.rewrite(), 12);
        CHECK.due("the tape as it is", Check.out(x), "aabcdefgh\u00ff\u00ff\u00ff");
        CHECK.due("a used tape is empty", x.feed(97, 1), 1);
    }

    private static void feedThrows() {
        MailRouter x = new MailRouter();
        x.feed(97, 1);
        CHECK.dueThrow("feed of 0", IllegalArgumentException.class, () -> x.feed(97, 0));
        CHECK.dueThrow("feed of 9", IllegalArgumentException.class, () -> x.feed(97, 9));
        CHECK.dueThrow("feed of -1", IllegalArgumentException.class, () -> x.feed(97, -1));
        CHECK.dueThrow("feed of least", IllegalArgumentException.class, () -> x.feed(97, Integer.MIN_VALUE));
        CHECK.due("feed behind what throws", x.feed(98, 1), 2);
        for (int k = 0; k < 74; k++) {
            x.feed(0x6161616161616161L, 8);
        }
        CHECK.due("feed up to 599", x.feed(0x6161616161L, 5), 599);
        CHECK.dueThrow("feed of 601", IllegalStateException.class, () -> x.feed(97, 2));
        CHECK.dueThrow("feed of 9 to a full tape", IllegalArgumentException.class, () -> x.feed(97, 9));
        CHECK.due("feed of 600", x.feed(99, 1), 600);
        CHECK.dueThrow("feed behind 600", IllegalStateException.class, () -> x.feed(97, 1));
        CHECK.due("600 bytes stay", x.rewrite(), 600);
        String out = Check.out(x);
        CHECK.due("their first ones", out.substring(0, 3), "aba");
        CHECK.due("their last one", out.substring(598), "ac");
    }

    private static void load() {
        MailRouter x = new MailRouter();
        CHECK.due("load", Check.load(x, 3, "a b(1);b c\nc=d"), 3);
        CHECK.due("load again", Check.load(x, 3, "a b"), 1);
        CHECK.due("what the file had is gone", x.nodes(), 2);
        CHECK.due("load of an empty text", Check.load(x, 3, ""), 0);
        CHECK.due("nothing is left", x.nodes(), 0);
        Check.load(x, 0, "a b(7)");
        Check.feed(x, "a b(8);c d(");
        CHECK.dueThrow("load of a fault", IllegalStateException.class, () -> x.load(0));
        CHECK.due("the file stays: nodes", x.nodes(), 2);
        CHECK.due("the file stays: link", x.linkCost(0, 1), 7);
        CHECK.due("the tape is used up", x.feed(97, 1), 1);
    }

    private static void loadOfNoFile() {
        MailRouter x = new MailRouter();
        Check.load(x, 1, "a b(7)");
        Check.feed(x, "a ?");
        CHECK.dueThrow("load of a fault", IllegalStateException.class, () -> x.load(0));
        for (int file : new int[] {-1, 4, Integer.MIN_VALUE, Integer.MAX_VALUE}) {
            Check.feed(x, "a b(");
            CHECK.dueThrow("load(" + file + ")", IndexOutOfBoundsException.class, () -> x.load(file));
            CHECK.due("its tape is used up", x.feed(97, 1), 1);
            x.lookUp();
        }
        CHECK.due("it tells no fault", x.fault(true), 2);
        CHECK.due("the files stay", x.nodes(), 2);
    }

    private static void drop() {
        MailRouter x = Check.router("", "a b;b c", "c d");
        CHECK.due("nodes of both", x.nodes(), 4);
        CHECK.due("drop", x.drop(0), 2);
        CHECK.due("nodes behind drop", x.nodes(), 2);
        x.name(0);
        CHECK.due("the first node behind drop", Check.out(x), "c");
        CHECK.due("drop again", x.drop(0), 0);
        CHECK.dueThrow("drop(-1)", IndexOutOfBoundsException.class, () -> x.drop(-1));
        CHECK.dueThrow("drop(4)", IndexOutOfBoundsException.class, () -> x.drop(4));
        CHECK.due("drop of the other", x.drop(1), 1);
        CHECK.due("no nodes", x.nodes(), 0);
        Check.feed(x, "ab");
        x.drop(2);
        CHECK.due("drop leaves the tape", x.feed(99, 1), 3);
    }

    private static void faultOfTheLatest() {
        MailRouter x = new MailRouter();
        Check.feed(x, "a b;  ?");
        CHECK.dueThrow("load", IllegalStateException.class, () -> x.load(0));
        CHECK.due("code of load", x.fault(false), 1);
        CHECK.due("place of load", x.fault(true), 6);
        x.drop(0);
        Check.lookUp(x, "a");
        CHECK.due("others leave it", x.fault(true), 6);
        Check.value(x, "1");
        CHECK.due("code behind value", x.fault(false), 0);
        CHECK.due("place behind value", x.fault(true), 0);
        Check.feed(x, "1/0");
        CHECK.dueThrow("value", IllegalStateException.class, () -> x.value());
        CHECK.due("code of value", x.fault(false), 4);
        CHECK.due("place of value", x.fault(true), 1);
        Check.load(x, 0, "a b");
        CHECK.due("code behind load", x.fault(false), 0);
        CHECK.due("place behind load", x.fault(true), 0);
    }

    private static void setHome() {
        MailRouter x = new MailRouter();
        CHECK.due("setHome without nodes", Check.setHome(x, "b"), MailRouter.NONE);
        CHECK.due("no home yet", x.home(), MailRouter.NONE);
        Check.load(x, 1, "a b;b c");
        CHECK.due("the home comes", x.home(), 1);
        Check.load(x, 0, "d e, b");
        CHECK.due("the home has another number", x.home(), 2);
        x.drop(0);
        x.drop(1);
        CHECK.due("the home is gone", x.home(), MailRouter.NONE);
        Check.load(x, 2, "b c");
        CHECK.due("the home is back", x.home(), 0);
        CHECK.due("setHome", Check.setHome(x, "c"), 1);
        CHECK.dueCost(x, "b", 204000);
        CHECK.dueCost(x, "c", 0);
        CHECK.due("setHome of no node", Check.setHome(x, "abcdef.8"), MailRouter.NONE);
        CHECK.dueCost(x, "c", MailRouter.NONE);
    }

    private static void setHomeThrows() {
        MailRouter x = Check.router("a", "a b");
        String[] wrong = {"", " b", "b ", "b;", "B", "b!c", "1b", "-b", "abcdefghi", "b#", "b\0", "b\n", "\u00e9", "b_", "5"};
        for (String name : wrong) {
            Check.feed(x, name);
            CHECK.dueThrow("setHome of \"" + name + "\"", IllegalArgumentException.class, () -> x.setHome());
            CHECK.due("its home stays", x.home(), 0);
            CHECK.due("its tape is used up", x.feed(98, 1), 1);
            CHECK.due("lookUp", x.lookUp(), 1);
        }
        CHECK.due("a point and all else that a name has", Check.setHome(x, ".z-09.-a"), MailRouter.NONE);
    }

    private static void privateHome() {
        MailRouter x = Check.router("a", "private{a};a b");
        CHECK.due("a private node is no home", x.home(), MailRouter.NONE);
        Check.load(x, 1, "b a");
        CHECK.due("one that is not is", x.home(), 2);
    }

    private static void lookUp() {
        MailRouter x = Check.router("", "private{p};.e={a.b,net-1};net-1=abcdefgh;p q");
        CHECK.due("lookUp of a domain", Check.lookUp(x, ".e"), 1);
        CHECK.due("lookUp of a host", Check.lookUp(x, "a.b"), 2);
        CHECK.due("lookUp of a net", Check.lookUp(x, "net-1"), 3);
        CHECK.due("lookUp of eight bytes", Check.lookUp(x, "abcdefgh"), 4);
        for (String none : new String[] {"p", "", "a", "a.b ", "abcdefghi", "abcdefg", "A", "q\0", "\0", " q"}) {
            CHECK.due("lookUp of \"" + none + "\"", Check.lookUp(x, none), MailRouter.NONE);
        }
        CHECK.due("the tape is used up", x.feed(113, 1), 1);
        CHECK.due("lookUp of q", x.lookUp(), 5);
    }

    public static void main(String[] args) {
        newObject();
        feed();
        feedThrows();
        load();
        loadOfNoFile();
        drop();
        faultOfTheLatest();
        setHome();
        setHomeThrows();
        privateHome();
        lookUp();
        CHECK.end();
    }
}
