/** Promises 16 to 23: the best ways, their costs, steps, states and places, and links back. */
public final class RoutesTest {
    private static final Check CHECK = new Check();

    private static void homeAndNoRoute() {
        MailRouter x = Check.router("a", "a b(1);c=d");
        CHECK.dueCost(x, "a", 0);
        CHECK.due("steps of the home", x.steps(0), 0);
        CHECK.due("state of the home", x.state(0), 0);
        CHECK.due("node at 0", x.nodeAt(0, 0), 0);
        CHECK.due("cost at 0", x.costAt(0, 0), 0);
        CHECK.due("step at 0", x.stepAt(0, 0), MailRouter.BEGIN);
        CHECK.dueCost(x, "c", MailRouter.NONE);
        CHECK.due("steps without a route", x.steps(2), MailRouter.NONE);
        CHECK.due("state without a route", x.state(2), MailRouter.NONE);
        CHECK.dueThrow("place without a route", IndexOutOfBoundsException.class, () -> x.nodeAt(2, 0));
        CHECK.dueCost(Check.router("", "a b"), "a", MailRouter.NONE);
        CHECK.dueCost(Check.router("z", "a b"), "b", MailRouter.NONE);
    }

    private static void kindsOfSteps() {
        MailRouter x = Check.router("a", "a b(10);c=b;n={c}(20);n={d};e d(7)");
        CHECK.dueRoute(x, "e", "0a 2b 1c 3n 4d 5e");
        CHECK.dueCost(x, "b", 10);
        CHECK.dueCost(x, "c", 10);
        CHECK.dueCost(x, "n", 30);
        CHECK.dueCost(x, "d", 30);
        CHECK.dueCost(x, "e", 200037);
        int e = Check.lookUp(x, "e");
        CHECK.due("steps", x.steps(e), 5);
        int[] costs = {0, 10, 10, 30, 30, 200037};
        for (int place = 0; place < costs.length; place++) {
            CHECK.due("costAt " + place, x.costAt(e, place), costs[place]);
        }
        CHECK.due("aliases of an alias are none", Check.route(Check.router("b", "a=b,c"), 2), "0b 1a 1c");
    }

    private static void noSuchPlaces() {
        MailRouter x = Check.router("a", "a b(1);b c(2)");
        for (int place : new int[] {-1, 3, Integer.MAX_VALUE, Integer.MIN_VALUE}) {
            CHECK.dueThrow("nodeAt " + place, IndexOutOfBoundsException.class, () -> x.nodeAt(2, place));
            CHECK.dueThrow("costAt " + place, IndexOutOfBoundsException.class, () -> x.costAt(2, place));
            CHECK.dueThrow("stepAt " + place, IndexOutOfBoundsException.class, () -> x.stepAt(2, place));
        }
        for (int node : new int[] {-1, 3, Integer.MAX_VALUE, Integer.MIN_VALUE}) {
            Class<IndexOutOfBoundsException> out = IndexOutOfBoundsException.class;
            CHECK.dueThrow("cost of " + node, out, () -> x.cost(node));
            CHECK.dueThrow("costByRounds of " + node, out, () -> x.costByRounds(node));
            CHECK.dueThrow("steps of " + node, out, () -> x.steps(node));
            CHECK.dueThrow("state of " + node, out, () -> x.state(node));
            CHECK.dueThrow("nodeAt of " + node, out, () -> x.nodeAt(node, 0));
            CHECK.dueThrow("costAt of " + node, out, () -> x.costAt(node, 0));
            CHECK.dueThrow("stepAt of " + node, out, () -> x.stepAt(node, 0));
            CHECK.dueThrow("isBack from " + node, out, () -> x.isBack(node, 0));
            CHECK.dueThrow("isBack to " + node, out, () -> x.isBack(0, node));
            CHECK.dueThrow("print of " + node, out, () -> x.print(node));
        }
    }

    private static void dead() {
        MailRouter x = Check.router("a", "dead{a!b,b,b!d,x!y,e,n};a b(1);b c(2),d(3);b=e;n={e}(4);e f(5);n g(6)");
        CHECK.dueCost(x, "b", 100001);
        CHECK.dueCost(x, "c", 200003);
        CHECK.dueCost(x, "d", 300004);
        CHECK.dueCost(x, "e", 100001);
        CHECK.dueCost(x, "f", 200006);
        CHECK.dueCost(x, "n", 100005);
        CHECK.dueCost(x, "g", 200011);
        CHECK.dueCost(Check.router("a", "dead{b!a};a b(1)"), "b", 1);
        CHECK.dueCost(Check.router("a", "a b(1)", "", "", "dead{a,a}"), "b", 100001);
        x = Check.router("a", "dead{a!b,a!c};a b(1),c(2)");
        CHECK.dueCost(x, "b", 100001);
        CHECK.dueCost(x, "c", 100002);
        // A way round what is dead is taken if it costs less.
        CHECK.dueRoute(Check.router("a", "a b(1),c(99999);c b(1);dead{a!b}"), "b", "0a 2c 2b");
        CHECK.dueRoute(Check.router("a", "a b(1),c(100001);c b(1);dead{a!b}"), "b", "0a 2b");
    }

    private static void gatesAndDomains() {
        MailRouter x = Check.router("a", "n={a}(1);g={a}(2);.d={a}(3);gated{g,.d,a}");
        CHECK.dueCost(x, "n", 1);
        CHECK.dueCost(x, "g", 70002);
        CHECK.dueCost(x, ".d", 70003);
        x = Check.router("g", "g={a,b}(2);gated{g};a c(1)");
        CHECK.dueCost(x, "a", 0);
        x = Check.router("a", "a g(5);g={a}(2);gated{g};.d={a}(6);a .d(7)");
        CHECK.dueCost(x, "g", 5);
        CHECK.dueCost(x, ".d", 7);
    }

    private static void right() {
        MailRouter x = Check.router("a", "a @b(1);b c(2),@d(3),e(4);e @f(5);d=i;i j(6)");
        CHECK.due("RIGHT", x.state(1), 1);
        CHECK.dueCost(x, "c", 50003);
        CHECK.dueCost(x, "d", 4);
        CHECK.dueCost(x, "f", 50010);
        CHECK.dueCost(x, "j", 50010);
        // BACK and OUT of a LEFT net are LEFT, OUT of a RIGHT net is RIGHT, INTO and ALIAS are neither.
        x = Check.router("a", "a @b(1);n={b}(2);n={c};m=@{b}(3);m=@{d};e b(4);f=b");
        CHECK.dueCost(x, "n", 3);
        CHECK.dueCost(x, "c", 50003);
        CHECK.dueCost(x, "d", 4);
        CHECK.dueCost(x, "e", 250005);
        CHECK.dueCost(x, "f", 1);
        x = Check.router("a", "m=@{a}(3);m=@{d};d e(1)");
        CHECK.dueCost(x, "e", 50004);
        CHECK.dueCost(Check.router("a", "m=@{a}(3);m=@{d};d e(1)", "m={m}"), "e", 4);
        // A dearer way that is LEFT is kept for what comes behind.
        x = Check.router("a", "a @b(1),c(10);c b(10);b d(1)");
        CHECK.due("the best way is RIGHT", x.state(1), 1);
        CHECK.dueRoute(x, "b", "0a 2b");
        CHECK.dueRoute(x, "d", "0a 2c 2b 2d");
        CHECK.dueCost(x, "d", 21);
        CHECK.due("the way goes by another state", x.costAt(Check.lookUp(x, "d"), 2), 20);
    }

    private static void inside() {
        MailRouter x = Check.router("a", "a .d(1);.d b(2),.e(3);b c(4),f;n={b}(5);b=g;n={h};.e={i}(6);k c(7)");
        CHECK.due("not yet", x.state(Check.lookUp(x, ".e")), 0);
        CHECK.due("INSIDE", x.state(Check.lookUp(x, "b")), 2);
        CHECK.dueCost(x, "b", 3);
        CHECK.dueCost(x, "c", 60007);
        CHECK.dueCost(x, "n", 60008);
        CHECK.dueCost(x, "g", 3);
        CHECK.dueCost(x, "h", 60008);
        CHECK.dueCost(x, "i", 4);
        CHECK.due("INSIDE by OUT", x.state(Check.lookUp(x, "i")), 2);
        CHECK.dueCost(x, "k", 320014);
        // BACK and ALIAS from a domain do not make a way INSIDE; a LINK to a net does.
        x = Check.router("a", "a .d(1);b .d(2);.d=c;b e(3);c f(4);.d n(5);n={g};g h(6)");
        CHECK.dueCost(x, "e", 200006);
        CHECK.due("state behind BACK", x.state(Check.lookUp(x, "b")), 0);
        CHECK.dueCost(x, "f", 5);
        CHECK.due("state at a net", x.state(Check.lookUp(x, "n")), 2);
        CHECK.dueCost(x, "h", 60012);
        // Both at once.
        x = Check.router(".d", ".d @b(1);b c(2)");
        CHECK.due("RIGHT and INSIDE", x.state(1), 3);
        CHECK.dueCost(x, "c", 110003);
        CHECK.due("both stay", x.state(2), 3);
    }

    private static void fewestSteps() {
        MailRouter x = Check.router("a", "a b(1);b c(1);a c(2);a d(0);d e(0);a=f;f e(0)");
        CHECK.dueRoute(x, "c", "0a 2c");
        x = Check.router("z", "a b(0);z b(0);b c(0);z a(0);z d(0);d c(0);a c(0);z c(5)");
        CHECK.dueRoute(x, "c", "0z 2a 2c");
    }

    private static void ties() {
        // From the node with the lowest number.
        CHECK.dueRoute(Check.router("a", "a c(1),b(1);b d(1);c d(1)"), "d", "0a 2c 2d");
        CHECK.dueRoute(Check.router("a", "a b(1),c(1);c d(1);b d(1)"), "d", "0a 2b 2d");
        // By the kind that is told first.
        CHECK.dueRoute(Check.router("a", "a b(0);a=b"), "b", "0a 1b");
        CHECK.dueRoute(Check.router("a", "b={a}(0);a b(0)"), "b", "0a 2b");
        CHECK.dueRoute(Check.router("a", "a={b}(0);b={a}(0)"), "b", "0a 3b");
        CHECK.dueRoute(Check.router("a", "a={b}(0);a=b"), "b", "0a 1b");
        CHECK.dueRoute(Check.router("a", "a={b}(0);a b(0)"), "b", "0a 2b");
        // With the lowest state: b is as near with either state, c takes the way that is not RIGHT.
        MailRouter x = Check.router("a", "a c(1),@d(1);c b(1);d @b(1)");
        CHECK.due("the lowest state", x.state(Check.lookUp(x, "b")), 0);
        CHECK.dueRoute(x, "b", "0a 2c 2b");
        x = Check.router("a", "a @d(1),c(1);c b(1);d @b(1)");
        CHECK.due("the lowest state before the lowest node", x.state(Check.lookUp(x, "b")), 0);
        CHECK.dueRoute(x, "b", "0a 2c 2b");
        // Fewer steps go ahead of a lower state.
        x = Check.router("a", "a c(1),@b(2);c b(1)");
        CHECK.due("fewest steps", x.state(Check.lookUp(x, "b")), 1);
        // The state from which a step comes: both ways to f are RIGHT, as e @f is.
        x = Check.router("a", "a b(1),@c(1);b e(1);c @e(1);e @f(1);f @g(1)");
        CHECK.dueRoute(x, "g", "0a 2b 2e 2f 2g");
    }

    private static void linksBack() {
        MailRouter x = Check.router("a", "a b(1);c b(2),a(3),d(9);d c(4),b(0);e d(5);f=e;g e(6);h i(7)");
        String[] names = {"a", "b", "c", "d", "e", "f", "g", "h", "i"};
        String backs = "";
        for (String from : names) {
            for (String to : names) {
                if (x.isBack(Check.lookUp(x, from), Check.lookUp(x, to))) {
                    backs += " " + from + to;
                }
            }
        }
        // d's links to what was reached already are turned at once with c's; those from d to c are not.
        CHECK.due("links back", backs, " ac bc bd de eg");
        CHECK.dueCost(x, "c", 200003);
        CHECK.dueRoute(x, "c", "0a 5c");
        CHECK.dueCost(x, "d", 200001);
        CHECK.dueCost(x, "e", 400006);
        CHECK.dueCost(x, "f", 400006);
        CHECK.dueCost(x, "g", 600012);
        CHECK.dueCost(x, "i", MailRouter.NONE);
        CHECK.dueCost(x, "h", MailRouter.NONE);
    }

    private static void whateverIsDead() {
        MailRouter x = Check.router("a", "c a(2);dead{c,a,c!a,a!c}");
        CHECK.dueCost(x, "c", 200002);
        CHECK.due("a dead link leads back, too", x.isBack(1, 0), true);
        CHECK.due("and not forth", x.isBack(0, 1), false);
    }

    private static void linksBackFollowTheHome() {
        MailRouter x = Check.router("", "a b(1)");
        CHECK.due("no links back without a home", x.isBack(1, 0), false);
        Check.setHome(x, "b");
        CHECK.due("the home is b", x.isBack(1, 0), true);
        Check.setHome(x, "a");
        CHECK.due("the home is a", x.isBack(1, 0), false);
        Check.setHome(x, "b");
        Check.load(x, 1, "b a(900000)");
        CHECK.due("a way is a way, whatever it costs", x.isBack(1, 0), false);
        CHECK.dueCost(x, "a", 900000);
        x.drop(1);
        CHECK.due("the link is gone", x.isBack(1, 0), true);
        CHECK.dueThrow("a load that throws", IllegalStateException.class, () -> Check.load(x, 1, "b a(1"));
        CHECK.dueCost(x, "a", 200001);
    }

    /** Each question is answered as well if it is the first one behind a change. */
    private static void firstQuestions() {
        String text = "a @b(1);b c(2);d c(3)";
        CHECK.due("cost first", Check.router("a", text).cost(2), 50003);
        CHECK.due("costByRounds first", Check.router("a", text).costByRounds(2), 50003);
        CHECK.due("costByRounds over a link back first", Check.router("a", text).costByRounds(3), 300006);
        CHECK.due("steps first", Check.router("a", text).steps(2), 2);
        CHECK.due("state first", Check.router("a", text).state(2), 1);
        CHECK.due("nodeAt first", Check.router("a", text).nodeAt(2, 1), 1);
        CHECK.due("costAt first", Check.router("a", text).costAt(2, 1), 1);
        CHECK.due("stepAt first", Check.router("a", text).stepAt(2, 1), MailRouter.LINK);
        CHECK.due("isBack first", Check.router("a", text).isBack(2, 3), true);
        CHECK.due("print first", Check.router("a", text).print(2), 5);
        MailRouter x = Check.router("a", text);
        CHECK.dueRewrite(x, "c!me", "c!me@b");
        CHECK.due("costByRounds", x.costByRounds(2), 50003);
        Check.setHome(x, "b");
        CHECK.due("costByRounds behind setHome", x.costByRounds(2), 2);
        Check.load(x, 0, "a b(4);b c(5)");
        CHECK.due("costByRounds behind load", x.costByRounds(2), 5);
        x.drop(0);
        CHECK.due("costByRounds behind drop", Check.load(x, 1, "b c(6)"), 1);
        CHECK.due("costByRounds behind drop and load", x.costByRounds(1), 6);
    }

    private static void longWays() {
        StringBuilder text = new StringBuilder();
        for (char c = 'a'; c < 'x'; c++) {
            text.append(c).append(' ').append((char) (c + 1)).append("(1000000);");
        }
        MailRouter x = Check.router("a", text.toString());
        CHECK.due("nodes", x.nodes(), 24);
        CHECK.dueCost(x, "x", 23000000);
        CHECK.due("steps", x.steps(23), 23);
        CHECK.due("cost on the way", x.costAt(23, 11), 11000000);
        Check.setHome(x, "x");
        CHECK.dueCost(x, "a", 23 * 1200000);
        CHECK.due("back", x.stepAt(0, 23), MailRouter.BACK);
    }

    public static void main(String[] args) {
        homeAndNoRoute();
        kindsOfSteps();
        noSuchPlaces();
        dead();
        gatesAndDomains();
        right();
        inside();
        fewestSteps();
        ties();
        linksBack();
        whateverIsDead();
        linksBackFollowTheHome();
        firstQuestions();
        longWays();
        CHECK.end();
    }
}
