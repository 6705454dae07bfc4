import java.util.Set;
import java.util.TreeSet;

/** The boundaries that "What it means" names down to the links back: nodes, links, members, steps, states, links back. */
public final class MeaningBounds {
    private static final Check CHECK = new Check();

    /** All nodes in their order, with * behind those of a file alone. */
    private static String names(MailRouter x) {
        StringBuilder text = new StringBuilder();
        for (int node = 0; node < x.nodes(); node++) {
            x.name(node);
            text.append(node == 0 ? "" : " ").append(Check.out(x)).append(x.isPrivate(node) ? "*" : "");
        }
        return text.toString();
    }

    private static void dueNames(String want, String... texts) {
        CHECK.due("nodes of " + String.join(" | ", texts), names(Check.router("", texts)), want);
    }

    // ---- names and nodes

    /** "All statements of the files 0, 1, 2 and 3 hold, in this order." */
    private static void inThisOrder() {
        MailRouter x = new MailRouter();
        for (int file = 3; file >= 0; file--) {
            char c = (char) ('a' + 2 * file);
            Check.load(x, file, c + " " + (char) (c + 1));
        }
        CHECK.due("loaded from the last to the first", names(x), "a b c d e f g h");
        Check.load(x, 1, "g z");
        CHECK.due("another text of file 1", names(x), "a b g z e f h");
        x.drop(0);
        CHECK.due("without file 0", names(x), "g z e f h");
        Check.load(x, 2, "");
        CHECK.due("with an empty file 2", names(x), "g z h");
        CHECK.due("links of all files", x.linkCost(0, 1) + x.linkCost(0, 2), 8000);
    }

    /** "Each name stands for a node; from a private statement on to the end of its file, the names in it stand for nodes of that file alone" */
    private static void fromAPrivateStatementOn() {
        dueNames("a b", "a b");
        dueNames("a* b", "private{a};a b");
        dueNames("a b a*", "a b;private{a}");
        dueNames("a b a* c", "a b;private{a};a c");
        dueNames("a b a*", "a b;private{a};a b");
        dueNames("a* b a", "private{a};a b", "a b");
        dueNames("a b a*", "a b", "private{a};a b");
        dueNames("a* b a* a* a*", "private{a};a b", "private{a};a b", "private{a};a b", "private{a};a b");
        dueNames("a* b*", "private{a};private{b,a};a b");
        dueNames("b a a* b*", "b a;private{a};private{b};a b");
        dueNames("a*", "private{a,a}");
        dueNames("a* a", "private{a}", "", "", "gated{a}");
        // The names in the private statement itself are private already, those ahead of it in the same file are not.
        MailRouter x = Check.router("a", "a b(1);private{b};a b(2)", "a b(3)");
        CHECK.due("nodes", names(x), "a b b*");
        CHECK.due("ahead of the statement, and of another file", x.linkCost(0, 1), 1);
        CHECK.due("behind the statement", x.linkCost(0, 2), 2);
        x = Check.router("a", "private{b};a b(2)", "a b(3)");
        CHECK.due("up to the end of the file", x.linkCost(1, 0), 2);
        CHECK.due("of that file alone", x.linkCost(1, 2), 3);
        // A private node keeps to its file whichever is loaded anew.
        Check.load(x, 1, "a b(4);c b(5)");
        CHECK.due("nodes", names(x), "b* a b c");
        x.drop(0);
        CHECK.due("nodes without the private one", names(x), "a b c");
    }

    /** "Nodes are numbered from 0 in the order in which they first come, in statements of all kinds (private ones, too)" */
    private static void inTheOrderInWhichTheyFirstCome() {
        dueNames("c b a", "c b,a");
        dueNames("c b a", "c=b,a");
        dueNames("c b a", "c={b,a}");
        dueNames("c b a", "dead{c,b!a}");
        dueNames("c b a", "dead{c!b,a}");
        dueNames("c b a", "gated{c,b,a}");
        dueNames("c* b* a*", "private{c,b,a}");
        dueNames("c b a d", "c b;c a;b d,c,a");
        dueNames("a", "a a");
        dueNames("a", "a=a");
        dueNames("a", "a={a}");
        dueNames("a", "dead{a!a}");
        dueNames("z y x", "z y", "z x,y");
    }

    /** "A node is a DOMAIN, if its name begins with a point; a NET, if it is none and is the first name of a statement with members; otherwise a HOST." */
    private static void kinds() {
        String text = ". .a,a.,a.b,a-;.a={n};n={h,.b};m={m};h=g;gated{k};dead{l};private{p,q};p={q};q n";
        MailRouter x = Check.router("", text);
        String[] names = {".", ".a", "a.", "a.b", "a-", "n", "h", ".b", "m", "g", "k", "l"};
        int[] kinds = {2, 2, 0, 0, 0, 1, 0, 2, 1, 0, 0, 0};
        for (int i = 0; i < names.length; i++) {
            CHECK.due("kind of " + names[i], x.kind(Check.lookUp(x, names[i])), kinds[i]);
        }
        CHECK.due("nodes", x.nodes(), names.length + 2);
        CHECK.due("kind of p, which is private", x.kind(12), MailRouter.NET);
        CHECK.due("kind of q, which is private", x.kind(13), MailRouter.HOST);
        x = Check.router("", "a b", "private{a};a={b}", "b={a}");
        CHECK.due("a net in another file alone", x.kind(2), MailRouter.NET);
        CHECK.due("is no net in the others", x.kind(0), MailRouter.HOST);
        CHECK.due("a net of a later file", x.kind(1), MailRouter.NET);
    }

    // ---- links and members

    /** "Of several links from one node to another one the one with the least cost counts, of these a LEFT one rather than a RIGHT one." */
    private static void theLinkThatCounts() {
        String[][] texts = {
            {"a b(5)", "5", "b!%"}, {"a @b(5)", "5", "%@b"},
            {"a b(5);a b(6)", "5", "b!%"}, {"a b(6);a b(5)", "5", "b!%"}, {"a b(5),b(5)", "5", "b!%"},
            {"a @b(5);a @b(5)", "5", "%@b"}, {"a @b(5);a b(5)", "5", "b!%"}, {"a b(5);a @b(5)", "5", "b!%"},
            {"a @b(4);a b(5)", "4", "%@b"}, {"a b(5);a @b(4)", "4", "%@b"},
            {"a @b(6);a b(5)", "5", "b!%"}, {"a b(5);a @b(6)", "5", "b!%"},
            {"a @b(5);a b(5);a @b(4)", "4", "%@b"}, {"a @b(4);a b(5);a @b(5)", "4", "%@b"},
            {"a b(4);a @b(4);a b(3);a @b(3)", "3", "b!%"}, {"a b(0),@b", "0", "b!%"}, {"a b,@b", "4000", "b!%"},
            {"a b,@b(3999)", "3999", "%@b"}, {"a @b(0-1),b(0)", "0", "b!%"}, {"a b(4001),@b", "4000", "%@b"},
            {"a b(1000000),@b(999999)", "999999", "%@b"}, {"dead{a!b};a b(5),b(6)", "5", "b!%"}};
        for (String[] t : texts) {
            MailRouter x = Check.router("a", t[0]);
            int b = Check.lookUp(x, "b");
            CHECK.due("link of " + t[0], x.linkCost(1 - b, b), Integer.parseInt(t[1]));
            CHECK.due("link back of " + t[0], x.linkCost(b, 1 - b), MailRouter.NONE);
            x.print(b);
            CHECK.due("print of " + t[0], Check.out(x), t[2]);
        }
        CHECK.duePrint(Check.router("a", "a @b(5)", "a b(5)"), "b", "b!%");
        CHECK.duePrint(Check.router("a", "a b(5)", "", "", "a @b(4)"), "b", "%@b");
        // A mark in one direction is none in the other.
        MailRouter x = Check.router("b", "a @b(5);b a(5)");
        CHECK.duePrint(x, "a", "a!%");
        Check.setHome(x, "a");
        CHECK.duePrint(x, "b", "%@b");
    }

    /** "Of several costs for a member of the same net the least counts." */
    private static void theLeastCostOfAMember() {
        String[] texts = {"n={a}(5)", "n={a}(5);n={a}(6)", "n={a}(6);n=@{a}(5)", "n={a,a}(5)", "n={a};n={b,a}(5)", "n={a}(5);m={a}(4)"};
        for (String text : texts) {
            MailRouter x = Check.router("a", text);
            CHECK.due("member of " + text, x.memberCost(1, 0), 5);
            CHECK.due("net of its member of " + text, x.memberCost(0, 1), MailRouter.NONE);
            CHECK.dueCost(x, "n", 5);
        }
        MailRouter x = Check.router("", "n={a,b}(5);n={b}(4);n={c}(0)", "n={a}(6);n={c}");
        CHECK.due("a stays", x.memberCost(1, 0), 5);
        CHECK.due("b is less", x.memberCost(2, 0), 4);
        CHECK.due("c is 0", x.memberCost(3, 0), 0);
    }

    /** "A net is RIGHT if all statements that tell its members have @." */
    private static void aNetIsRight() {
        String[][] texts = {
            {"n={a,b}", "b!%"}, {"n=@{a,b}", "%@b"}, {"n=@{a};n=@{b}", "%@b"}, {"n={a};n=@{b}", "b!%"}, {"n=@{a};n={b}", "b!%"},
            {"n=@{a};n={b};n=@{b}", "b!%"}, {"n=@{a,b};n={n}", "b!%"}, {"n={n};n=@{a,b}", "b!%"}, {"n=@{n};n=@{a,b}", "%@b"},
            {"n=@{a,b};m={a,c}", "%@b"}, {"n=@{a,b};n b(999999)", "%@b"}, {"n=@{a,b}(1);n=@{a,b}(0)", "%@b"},
            {".n=@{a,b}", "%@b.n"}, {".n=@{a};.n={b}", "b.n!%"}};
        for (String[] t : texts) {
            CHECK.duePrint(Check.router("a", t[0]), "b", t[1]);
        }
        CHECK.duePrint(Check.router("a", "n=@{a,b}", "n={a}"), "b", "b!%");
        CHECK.duePrint(Check.router("a", "n=@{a,b}", "n=@{a}"), "b", "%@b");
        CHECK.duePrint(Check.router("a", "n=@{a,b}", "private{n};n={a}"), "b", "%@b");
    }

    /** "A node is no link, alias or member of itself; such words mean nothing (but a statement with members makes a net, LEFT or RIGHT, all the same)" */
    private static void nothingOfItself() {
        MailRouter x = Check.router("a", "a a(0),b(1);a=a,c;a={a,d}(2);dead{a!a};gated{a}");
        CHECK.due("nodes", names(x), "a b c d");
        CHECK.due("no link of itself", x.linkCost(0, 0), MailRouter.NONE);
        CHECK.due("no member of itself", x.memberCost(0, 0), MailRouter.NONE);
        CHECK.due("no link back of itself", x.isBack(0, 0), false);
        CHECK.due("the next target all the same", x.linkCost(0, 1), 1);
        CHECK.dueRoute(x, "c", "0a 1c");
        CHECK.due("the next member all the same", x.memberCost(3, 0), 2);
        CHECK.dueRoute(x, "a", "0a");
        CHECK.dueCost(x, "b", 1);
        x = Check.router("a", "a a(0)");
        CHECK.due("a link of itself alone", x.linkCost(0, 0), MailRouter.NONE);
        CHECK.due("makes a node all the same", x.nodes(), 1);
        CHECK.due("which is a host", x.kind(0), MailRouter.HOST);
        CHECK.due("a member of itself alone makes a net", Check.router("", "a={a}").kind(0), MailRouter.NET);
        // No node leads to another one by being its own alias or member.
        x = Check.router("a", "a=a;b=b;a={a};b={b};b b");
        CHECK.dueCost(x, "b", MailRouter.NONE);
        CHECK.due("no links back", x.isBack(0, 1), false);
    }

    /** "nor do dead links that there are not" */
    private static void deadLinksThatThereAreNot() {
        MailRouter x = Check.router("a", "dead{b!a,a!c,c!a};a b(1);b=c;n={a,c}(2)");
        CHECK.due("no link from it", x.linkCost(0, Check.lookUp(x, "b")), MailRouter.NONE);
        CHECK.dueCost(x, "b", 1);
        CHECK.dueCost(x, "c", 1);
        CHECK.dueCost(x, "n", 2);
        CHECK.due("no link is made", x.linkCost(1, 2), MailRouter.NONE);
        CHECK.due("nor the other way", x.linkCost(2, 1), MailRouter.NONE);
        x = Check.router("a", "dead{a!b};a b(1);a @b(0)");
        CHECK.dueCost(x, "b", 100000);
        CHECK.dueCost(Check.router("a", "a b(1)", "private{b};dead{a!b}"), "b", 1);
        CHECK.dueCost(Check.router("a", "dead{a!b}", "a b(1)"), "b", 100001);
        CHECK.dueCost(Check.router("a", "a b(1)", "dead{a!b,a!b}", "dead{a!b}"), "b", 100001);
    }

    // ---- steps and states

    /** A router whose way from home to a node s, or .s, has a state and costs nothing, and which has one more text. */
    private static MailRouter startedIn(int state, String s, String text) {
        String h = state >= 2 ? ".h" : "h";
        String start = state == 0 ? "h=" + s : h + ((state & 1) == 0 ? " " : " @") + "m(0);m=" + s;
        return Check.router(h, start, text);
    }

    /** A step from s to t: it costs so much on ways with the states 0, 1, 2 and 3, and makes the state so much more. */
    private static void dueStep(String s, String t, String text, int kind, int[] costs, int added) {
        for (int state = 0; state < 4; state++) {
            MailRouter x = startedIn(state, s, text);
            int from = Check.lookUp(x, s);
            int to = Check.lookUp(x, t);
            CHECK.due("state ahead of " + text, x.state(from), state);
            CHECK.due("cost ahead of " + text, x.cost(from), 0);
            CHECK.due("cost in " + state + " of " + text, x.cost(to), costs[state]);
            CHECK.due("costByRounds in " + state + " of " + text, x.costByRounds(to), costs[state]);
            CHECK.due("state behind " + state + " of " + text, x.state(to), state | added);
            CHECK.due("steps in " + state + " of " + text, x.steps(to), x.steps(from) + 1);
            CHECK.due("kind in " + state + " of " + text, x.stepAt(to, x.steps(to)), kind);
            CHECK.due("node ahead in " + state + " of " + text, x.nodeAt(to, x.steps(to) - 1), from);
        }
    }

    /** "LINK by a link that counts: its cost, 100000 more if it is dead, and 100000 more if the node from which it goes is dead" */
    private static void link() {
        int link = MailRouter.LINK;
        dueStep("s", "t", "s t(7)", link, new int[] {7, 50007, 60007, 110007}, 0);
        dueStep("s", "t", "s @t(7)", link, new int[] {7, 7, 60007, 60007}, 1);
        dueStep("s", "t", "s t(0)", link, new int[] {0, 50000, 60000, 110000}, 0);
        dueStep("s", "t", "s t(1000000)", link, new int[] {1000000, 1050000, 1060000, 1110000}, 0);
        dueStep("s", "t", "s t(7);dead{s!t}", link, new int[] {100007, 150007, 160007, 210007}, 0);
        dueStep("s", "t", "s t(7);dead{s}", link, new int[] {100007, 150007, 160007, 210007}, 0);
        dueStep("s", "t", "dead{s,s!t};s t(7)", link, new int[] {200007, 250007, 260007, 310007}, 0);
        dueStep("s", "t", "dead{s,s!t};s @t(7)", link, new int[] {200007, 200007, 260007, 260007}, 1);
        dueStep("s", "t", "dead{t,t!s,s!m,m!s,m,h!s};s t(7)", link, new int[] {7, 50007, 60007, 110007}, 0);
        dueStep("s", ".t", "s .t(7)", link, new int[] {7, 50007, 60007, 110007}, 0);
        dueStep("s", "t", "s t(7);gated{t,s};t={s}", link, new int[] {7, 50007, 60007, 110007}, 0);
    }

    /** "A way is INSIDE behind its first LINK or OUT from a domain to a node that is none" */
    private static void fromADomain() {
        dueStep(".s", "t", ".s t(7)", MailRouter.LINK, new int[] {7, 50007, 60007, 110007}, 2);
        dueStep(".s", "t", ".s @t(7)", MailRouter.LINK, new int[] {7, 7, 60007, 60007}, 3);
        dueStep(".s", "t", ".s t(7);t={x}", MailRouter.LINK, new int[] {7, 50007, 60007, 110007}, 2);
        dueStep(".s", ".t", ".s .t(7)", MailRouter.LINK, new int[] {7, 50007, 60007, 110007}, 0);
        dueStep(".s", ".t", ".s @.t(7)", MailRouter.LINK, new int[] {7, 7, 60007, 60007}, 1);
        dueStep(".s", "t", ".s={t}(7)", MailRouter.OUT, new int[] {0, 50000, 0, 50000}, 2);
        dueStep(".s", "t", ".s=@{t}(7)", MailRouter.OUT, new int[] {0, 0, 0, 0}, 3);
        dueStep(".s", ".t", ".s={.t}(7)", MailRouter.OUT, new int[] {0, 50000, 0, 50000}, 0);
        dueStep(".s", ".t", ".s=@{.t}(7)", MailRouter.OUT, new int[] {0, 0, 0, 0}, 1);
        dueStep(".s", "t", ".s=t", MailRouter.ALIAS, new int[] {0, 0, 0, 0}, 0);
        dueStep(".s", "t", "t={.s}(7)", MailRouter.INTO, new int[] {7, 7, 60007, 60007}, 0);
        dueStep(".s", "t", "t .s(7)", MailRouter.BACK, new int[] {200007, 250007, 260007, 310007}, 0);
        // To a domain from what is none: not INSIDE.
        dueStep("s", ".t", "s={.t}", MailRouter.OUT, new int[] {0, 50000, 0, 50000}, 0);
    }

    /** "ALIAS ...: 0", "INTO ...: 70000 more if the net is gated or a domain", "OUT from a net to a member: 0", "BACK ...: the cost of the link that is gone back, and 200000 more, whatever is dead" */
    private static void otherSteps() {
        dueStep("s", "t", "s=t", MailRouter.ALIAS, new int[] {0, 0, 0, 0}, 0);
        dueStep("s", "t", "t=s", MailRouter.ALIAS, new int[] {0, 0, 0, 0}, 0);
        dueStep("s", "t", "t=s;dead{s,t,s!t,t!s};gated{s,t}", MailRouter.ALIAS, new int[] {0, 0, 0, 0}, 0);
        dueStep("s", "t", "t={s}(7)", MailRouter.INTO, new int[] {7, 7, 60007, 60007}, 0);
        dueStep("s", "t", "t=@{s}(7)", MailRouter.INTO, new int[] {7, 7, 60007, 60007}, 0);
        dueStep("s", "t", "t={s}(0);dead{s,t,s!t,t!s};gated{s}", MailRouter.INTO, new int[] {0, 0, 60000, 60000}, 0);
        dueStep("s", "t", "t={s}(7);gated{t}", MailRouter.INTO, new int[] {70007, 70007, 130007, 130007}, 0);
        dueStep("s", "t", "gated{t};t={s}(0);gated{t,t}", MailRouter.INTO, new int[] {70000, 70000, 130000, 130000}, 0);
        dueStep("s", ".t", ".t={s}(7)", MailRouter.INTO, new int[] {70007, 70007, 130007, 130007}, 0);
        dueStep("s", ".t", ".t={s}(7);gated{.t}", MailRouter.INTO, new int[] {70007, 70007, 130007, 130007}, 0);
        dueStep("s", "t", "s={t}(7)", MailRouter.OUT, new int[] {0, 50000, 0, 50000}, 0);
        dueStep("s", "t", "s=@{t}(7)", MailRouter.OUT, new int[] {0, 0, 0, 0}, 1);
        dueStep("s", "t", "s=@{t}(7);s={x}", MailRouter.OUT, new int[] {0, 50000, 0, 50000}, 0);
        dueStep("s", "t", "s={t}(7);gated{s,t};dead{s,t,s!t}", MailRouter.OUT, new int[] {0, 50000, 0, 50000}, 0);
        dueStep("s", "t", "t s(7)", MailRouter.BACK, new int[] {200007, 250007, 260007, 310007}, 0);
        dueStep("s", "t", "t @s(7)", MailRouter.BACK, new int[] {200007, 250007, 260007, 310007}, 0);
        dueStep("s", "t", "t s(0)", MailRouter.BACK, new int[] {200000, 250000, 260000, 310000}, 0);
        dueStep("s", "t", "t s(9),s(8);t @s(7)", MailRouter.BACK, new int[] {200007, 250007, 260007, 310007}, 0);
        dueStep("s", "t", "t s(7);dead{s,t,t!s,s!t};gated{s,t}", MailRouter.BACK, new int[] {200007, 250007, 260007, 310007}, 0);
        dueStep("s", ".t", ".t s(7)", MailRouter.BACK, new int[] {200007, 250007, 260007, 310007}, 0);
    }

    /** "A way is RIGHT behind its first step with that mark; each LEFT step of such a way costs 50000 more." */
    private static void rightBehindItsFirst() {
        MailRouter x = Check.router("a", "a b(1);b @c(1);c d(1);d @e(1);e f(1);f=g;h={g}(1);h={i}");
        String[] names = {"a", "b", "c", "d", "e", "f", "g", "h", "i"};
        int[] costs = {0, 1, 2, 50003, 50004, 100005, 100005, 100006, 150006};
        for (int i = 0; i < names.length; i++) {
            CHECK.dueCost(x, names[i], costs[i]);
            CHECK.due("state at " + names[i], x.state(Check.lookUp(x, names[i])), i < 2 ? 0 : 1);
        }
        for (int place = 0; place < costs.length; place++) {
            CHECK.due("cost up to " + place, x.costAt(Check.lookUp(x, "i"), place), costs[place]);
        }
    }

    /** "each LINK, BACK and INTO of such a way costs 60000 more" */
    private static void insideBehindItsFirst() {
        MailRouter x = Check.router("a", "a .b(1);.b .c(1);.c={d}(1);d e(1);e .f(1);.f g(1);h={g}(1);h={i};i=j;k j(1)");
        String[] names = {"a", ".b", ".c", "d", "e", ".f", "g", "h", "i", "j", "k"};
        int[] costs = {0, 1, 2, 2, 60003, 120004, 180005, 240006, 240006, 240006, 500007};
        for (int i = 0; i < names.length; i++) {
            CHECK.dueCost(x, names[i], costs[i]);
            CHECK.due("state at " + names[i], x.state(Check.lookUp(x, names[i])), i < 3 ? 0 : 2);
        }
    }

    // ---- links back

    private static void dueBacks(MailRouter x, String want) {
        Set<String> backs = new TreeSet<>();
        String[] names = names(x).split(" ");
        for (int from = 0; from < names.length; from++) {
            for (int to = 0; to < names.length; to++) {
                if (x.isBack(from, to)) {
                    backs.add(names[from] + ">" + names[to]);
                }
            }
        }
        CHECK.due("links back", String.join(" ", backs), want);
    }

    /** "As long as there are nodes to which no way leads from the home" */
    private static void nodesToWhichNoWayLeads() {
        dueBacks(Check.router("a", "a b;b a"), "");
        dueBacks(Check.router("a", "a b,c;b c;c b"), "");
        dueBacks(Check.router("a", "b a"), "a>b");
        dueBacks(Check.router("a", "a b(1000000);b a(0);dead{a!b,a}"), "");
        dueBacks(Check.router("a", "b a(0);a=b"), "");
        dueBacks(Check.router("a", "b a(0);b={a}(1000000);gated{b}"), "");
        dueBacks(Check.router("a", "b a(0);a={b}(1000000)"), "");
        dueBacks(Check.router("a", "c a;b c;a=b"), "");
        dueBacks(Check.router("a", "c a;b a;a=b"), "a>c");
        dueBacks(Check.router("", "a b;b a"), "");
        dueBacks(Check.router("", "b a"), "");
        dueBacks(Check.router("z", "b a"), "");
        dueBacks(Check.router("a", "a a;b=b"), "");
        MailRouter x = Check.router("a", "c b;b a");
        dueBacks(x, "a>b b>c");
        Check.setHome(x, "b");
        dueBacks(x, "b>c");
        Check.setHome(x, "c");
        dueBacks(x, "");
        Check.setHome(x, "z");
        dueBacks(x, "");
    }

    /** "and some of these have a link that counts to a node to which one does" */
    private static void someOfTheseHaveALink() {
        dueBacks(Check.router("a", "a b;c d"), "");
        dueBacks(Check.router("a", "a b;c=d;n={c,d}"), "");
        dueBacks(Check.router("a", "a b;c d;d c"), "");
        dueBacks(Check.router("a", "a b;c d;d b"), "b>d d>c");
        dueBacks(Check.router("a", "a b;c d;d b;c b"), "b>c b>d");
        dueBacks(Check.router("a", "a b;c c;dead{c!b};gated{c}"), "");
        dueBacks(Check.router("a", "a b;dead{c!b,c};c b"), "b>c");
        dueBacks(Check.router("a", "a={b};c b;d n;n={d}"), "b>c");
        MailRouter x = Check.router("a", "a b;c d");
        CHECK.dueCost(x, "c", MailRouter.NONE);
        CHECK.dueCost(x, "d", MailRouter.NONE);
    }

    /** "all these links of all these nodes get links back at once" */
    private static void allAtOnce() {
        // All links of one node, each to a node that is reached.
        dueBacks(Check.router("a", "a b(1);c a(900000),b(0)"), "a>c b>c");
        // Of all nodes; the link from d to c is none of these, as no way led to c, and d is reached then.
        dueBacks(Check.router("a", "a b;c b;d b,c"), "b>c b>d");
        dueBacks(Check.router("a", "a b;d b,c;c b,d"), "b>c b>d");
        // What is reached by the ways that there are then needs none any more.
        dueBacks(Check.router("a", "c a;c d;d a"), "a>c a>d");
        dueBacks(Check.router("a", "c a;c d;e d"), "a>c d>e");
        dueBacks(Check.router("a", "c a;e c;e f;f c"), "a>c c>e c>f");
        dueBacks(Check.router("a", "c a;e c;f e;e f"), "a>c c>e");
        dueBacks(Check.router("a", "c a;c=d;d={e};e f;g f;h g,a"), "a>c a>h");
    }

    public static void main(String[] args) {
        inThisOrder();
        fromAPrivateStatementOn();
        inTheOrderInWhichTheyFirstCome();
        kinds();
        theLinkThatCounts();
        theLeastCostOfAMember();
        aNetIsRight();
        nothingOfItself();
        deadLinksThatThereAreNot();
        link();
        fromADomain();
        otherSteps();
        rightBehindItsFirst();
        insideBehindItsFirst();
        nodesToWhichNoWayLeads();
        someOfTheseHaveALink();
        allAtOnce();
        CHECK.end();
    }
}
