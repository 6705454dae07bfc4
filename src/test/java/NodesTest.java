/** Promises 10 to 15: nodes, their numbers, names and kinds, links and members. */
public final class NodesTest {
    private static final Check CHECK = new Check();

    private static String names(MailRouter x) {
        StringBuilder text = new StringBuilder();
        for (int node = 0; node < x.nodes(); node++) {
            x.name(node);
            text.append(node == 0 ? "" : " ").append(Check.out(x)).append(x.isPrivate(node) ? "*" : "");
        }
        return text.toString();
    }

    private static void numbers() {
        MailRouter x = Check.router("", "a b,c;d=e;f={g,a}", "dead{h,i!j};gated{k};private{l,a};a l");
        CHECK.due("numbers", names(x), "a b c d e f g h i j k l* a*");
        Check.load(x, 3, "l b");
        CHECK.due("a later file", names(x), "a b c d e f g h i j k l* a* l");
        x.drop(0);
        CHECK.due("without the first file", names(x), "h i j k l* a* l b");
    }

    private static void privateNames() {
        MailRouter x = Check.router("", "a b(1);private{a};b a(2);private{a,b};b a(3)", "a b(4)", "private{b};a b(5)");
        CHECK.due("private names", names(x), "a b a* b* b*");
        CHECK.due("ahead of the statement", x.linkCost(0, 1), 1);
        CHECK.due("behind the first one", x.linkCost(1, 2), 2);
        CHECK.due("behind the second one", x.linkCost(3, 2), 3);
        CHECK.due("of another file", x.linkCost(0, 4), 5);
        CHECK.due("lookUp of a", Check.lookUp(x, "a"), 0);
        CHECK.due("lookUp of b", Check.lookUp(x, "b"), 1);
        x.drop(0);
        CHECK.due("private names behind drop", names(x), "a b b*");
    }

    private static void privateNetsAndDead() {
        MailRouter x = Check.router("a", "private{n,.d};n={a}(1);.d={a}(2);gated{n};dead{n}", "n={a}(3);a n(4)");
        CHECK.due("nodes", names(x), "n* .d* a n");
        CHECK.due("a private net", x.kind(0), MailRouter.NET);
        CHECK.due("a private domain", x.kind(1), MailRouter.DOMAIN);
        CHECK.due("into the gated private net", x.cost(0), 70001);
        CHECK.due("into the one that is not", x.cost(3), 3);
    }

    private static void kinds() {
        MailRouter x = Check.router("", "a n;.d a;e={e};.f={a};g=@{g,g};b=n;gated{c}", "n={a}");
        String[] names = {"a", "n", ".d", "e", ".f", "g", "b", "c"};
        int[] kinds = {0, 1, 2, 1, 2, 1, 0, 0};
        for (int i = 0; i < names.length; i++) {
            CHECK.due("kind of " + names[i], x.kind(Check.lookUp(x, names[i])), kinds[i]);
        }
        x.drop(1);
        CHECK.due("a net no more", x.kind(Check.lookUp(x, "n")), MailRouter.HOST);
    }

    private static void name() {
        MailRouter x = Check.router("", ".edu abcdefgh;a b");
        CHECK.due("length of .edu", x.name(0), 4);
        CHECK.due(".edu", Check.out(x), ".edu");
        CHECK.due("length of abcdefgh", x.name(1), 8);
        CHECK.due("abcdefgh", x.word(0), 0x6867666564636261L);
        CHECK.due("length of a", x.name(2), 1);
        CHECK.due("a", x.word(0), 97);
    }

    private static void linkCost() {
        MailRouter x = Check.router("", "a b(9),@c(5),a(1);a b(7);a @b(7);a b(8)", "a c(5);b a(0);dead{a!c,a}");
        CHECK.due("the least cost counts", x.linkCost(0, 1), 7);
        CHECK.due("a dead link costs the same", x.linkCost(0, 2), 5);
        CHECK.due("the other way", x.linkCost(1, 0), 0);
        CHECK.due("no link", x.linkCost(2, 0), MailRouter.NONE);
        CHECK.due("no link to itself", x.linkCost(0, 0), MailRouter.NONE);
        CHECK.due("a member is no link", Check.router("", "n={a}").linkCost(1, 0), MailRouter.NONE);
        Check.load(x, 2, "a b(6)");
        CHECK.due("a lesser one in a later file", x.linkCost(0, 1), 6);
    }

    private static void marksOfLinks() {
        CHECK.duePrint(Check.router("a", "a @b(5);a b(5)"), "b", "b!%");
        CHECK.duePrint(Check.router("a", "a b(5);a @b(5)"), "b", "b!%");
        CHECK.duePrint(Check.router("a", "a b(6);a @b(5)"), "b", "%@b");
        CHECK.duePrint(Check.router("a", "a @b(5);a b(6)"), "b", "%@b");
        CHECK.duePrint(Check.router("a", "a @b(6);a b(5)"), "b", "b!%");
        CHECK.duePrint(Check.router("a", "a b(5);a @b(4)", "a b(4)"), "b", "b!%");
        CHECK.duePrint(Check.router("a", "a b(3);a @b(2);a @b(2)"), "b", "%@b");
    }

    private static void memberCost() {
        MailRouter x = Check.router("", "n={a,b,n}(9);n=@{a,a}(5);.d={a};gated{n}", "n={b}(10)");
        CHECK.due("the least cost counts", x.memberCost(1, 0), 5);
        CHECK.due("gated or not", x.memberCost(2, 0), 9);
        CHECK.due("of a domain", x.memberCost(1, 3), 4000);
        CHECK.due("no member", x.memberCost(2, 3), MailRouter.NONE);
        CHECK.due("a net is no member of its member", x.memberCost(0, 1), MailRouter.NONE);
        CHECK.due("no member of itself", x.memberCost(0, 0), MailRouter.NONE);
        CHECK.due("a link is no member", Check.router("", "a b").memberCost(1, 0), MailRouter.NONE);
    }

    private static void noSuchNodes() {
        MailRouter x = Check.router("a", "a b");
        x.name(1);
        for (int node : new int[] {-1, 2, 24, Integer.MAX_VALUE, Integer.MIN_VALUE}) {
            String n = "(" + node + ")";
            Class<IndexOutOfBoundsException> out = IndexOutOfBoundsException.class;
            CHECK.dueThrow("name" + n, out, () -> x.name(node));
            CHECK.dueThrow("kind" + n, out, () -> x.kind(node));
            CHECK.dueThrow("isPrivate" + n, out, () -> x.isPrivate(node));
            CHECK.dueThrow("linkCost from" + n, out, () -> x.linkCost(node, 0));
            CHECK.dueThrow("linkCost to" + n, out, () -> x.linkCost(0, node));
            CHECK.dueThrow("memberCost of" + n, out, () -> x.memberCost(node, 0));
            CHECK.dueThrow("memberCost in" + n, out, () -> x.memberCost(0, node));
        }
        CHECK.due("the out stays", Check.out(x), "b");
        CHECK.dueThrow("no nodes at all", IndexOutOfBoundsException.class, () -> new MailRouter().kind(0));
    }

    public static void main(String[] args) {
        numbers();
        privateNames();
        privateNetsAndDead();
        kinds();
        name();
        linkCost();
        marksOfLinks();
        memberCost();
        noSuchNodes();
        CHECK.end();
    }
}
