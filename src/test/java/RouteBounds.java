/** The boundaries that the sentences on routes, names on a way, printed ways and addresses name. */
public final class RouteBounds {
    private static final Check CHECK = new Check();

    private static void dueRoute(String home, String text, String node, String want) {
        MailRouter x = Check.router(home, text);
        CHECK.due("route of " + node + " in " + text, Check.route(x, Check.lookUp(x, node)), want);
        int number = Check.lookUp(x, node);
        CHECK.due("costByRounds of " + node + " in " + text, x.costByRounds(number), x.cost(number));
    }

    private static void duePrint(String home, String text, String node, String want) {
        MailRouter x = Check.router(home, text);
        int length = x.print(Check.lookUp(x, node));
        CHECK.due("print of " + node + " in " + text, Check.out(x, length), want);
        CHECK.due("its length", length, want.length());
    }

    private static void dueRewrite(String home, String text, String address, String want) {
        CHECK.dueRewrite(Check.router(home, text), address, want);
    }

    // ---- routes

    /** "The best way to a node with a state is the one with the least cost" */
    private static void theLeastCost() {
        dueRoute("a", "a b(1);b c(1);a c(2)", "c", "0a 2c");
        dueRoute("a", "a b(1);b c(1);a c(3)", "c", "0a 2b 2c");
        dueRoute("a", "a b(1);b c(1);c d(1);a d(4)", "d", "0a 2b 2c 2d");
        dueRoute("a", "a b(1);b c(1);c d(1);a d(3)", "d", "0a 2d");
        dueRoute("a", "n={a,b}(9);a b(9)", "b", "0a 2b");
        dueRoute("a", "n={a,b}(9);a b(10)", "b", "0a 3n 4b");
        dueRoute("a", "n={a,b}(9);a b(70009);gated{n}", "b", "0a 2b");
        dueRoute("a", "n={a,b}(9);a b(70010);gated{n}", "b", "0a 3n 4b");
        dueRoute("a", "a b(9);dead{a!b};a c(99999),d;c b(10)", "b", "0a 2b");
        dueRoute("a", "a b(9);dead{a!b};a c(99999),d;c b(9)", "b", "0a 2c 2b");
    }

    /** "of several the one with the fewest steps" */
    private static void theFewestSteps() {
        // The longer way is at c, its last node but one, for less; c comes ahead of d, or behind it.
        dueRoute("a", "a b(1);b c(1);c t(8);a d(9);d t(1)", "t", "0a 2d 2t");
        dueRoute("a", "a d(9);d t(1);a b(1);b c(1);c t(8)", "t", "0a 2d 2t");
        dueRoute("a", "a b(1);b c(1);c t(7);a d(9);d t(1)", "t", "0a 2b 2c 2t");
        dueRoute("a", "a d(9);d t(2);a b(1);b c(1);c t(8)", "t", "0a 2b 2c 2t");
        // The shorter one is there for less.
        dueRoute("a", "a b(4);b c(4);c t(2);a d(1);d t(9)", "t", "0a 2d 2t");
        dueRoute("a", "a b(4);b c(4);c t(1);a d(1);d t(9)", "t", "0a 2b 2c 2t");
        // Steps without a cost are steps, too.
        dueRoute("a", "a=b;b=c;c d(5);a e(5);e d(0)", "d", "0a 2e 2d");
        dueRoute("a", "a b(0);b c(0);c=d;a d(0)", "d", "0a 2d");
        dueRoute("a", "a=b;b=c;a c(0)", "c", "0a 2c");
        dueRoute("a", "a=b;b=c;a c(1)", "c", "0a 1b 1c");
    }

    /** "of several the one that comes there from the node with the lowest number" */
    private static void fromTheLowestNumber() {
        dueRoute("a", "a b(1),c(2);b t(2);c t(1)", "t", "0a 2b 2t");
        dueRoute("a", "a c(2),b(1);b t(2);c t(1)", "t", "0a 2c 2t");
        dueRoute("a", "a c(2),b(1);b t(2);c t(2)", "t", "0a 2b 2t");
        dueRoute("a", "a b(1),c(2);b t(2);c t(0)", "t", "0a 2c 2t");
        dueRoute("a", "a b(1),c(1);b t(1);c t(1)", "t", "0a 2b 2t");
        dueRoute("a", "a c(1),b(1);b t(1);c t(1)", "t", "0a 2c 2t");
        // The number goes ahead of the kind: the node told first sends by OUT, the other one by ALIAS.
        dueRoute("a", "n={a}(0);n={t};a c(0);c=t", "t", "0a 3n 4t");
        dueRoute("a", "a c(0);n={a}(0);n={t};c=t", "t", "0a 2c 1t");
        // Only the last node but one is looked at, not those ahead of it: d is lower than e, b is lower than c.
        dueRoute("a", "d t(1);e t(1);a b(1);b e(1);a c(1);c d(1)", "t", "0a 2c 2d 2t");
        dueRoute("a", "e t(1);d t(1);a b(1);b e(1);a c(1);c d(1)", "t", "0a 2b 2e 2t");
    }

    /** "of several by the lowest state there" */
    private static void byTheLowestStateThere() {
        // e is come to with the states 0 and 1, and both become 1 by the step to f.
        dueRoute("a", "a b(1),@c(1);b e(1);c @e(1);e @f(1)", "f", "0a 2b 2e 2f");
        dueRoute("a", "a @c(1),b(1);b e(1);c @e(1);e @f(1)", "f", "0a 2b 2e 2f");
        dueRoute("a", "a @c(1),b(1);b e(2);c @e(1);e @f(1)", "f", "0a 2c 2e 2f");
        // .e is come to with the state 2 for 60000 less than with the state 0, and .e t makes that up.
        dueRoute(".d", ".d m(0),.k(0);m .e(0);.k .e(120000);.e t(0)", "t", "0.d 2.k 2.e 2t");
        dueRoute(".d", ".d .k(0),m(0);.k .e(120000);m .e(0);.e t(0)", "t", "0.d 2.k 2.e 2t");
        dueRoute(".d", ".d m(0),.k(0);m .e(0);.k .e(120001);.e t(0)", "t", "0.d 2m 2.e 2t");
        MailRouter x = Check.router(".d", ".d m(0),.k(0);m .e(0);.k .e(120000);.e t(0)");
        CHECK.due("t is INSIDE", x.state(Check.lookUp(x, "t")), 2);
        CHECK.dueCost(x, "t", 120000);
        CHECK.dueCost(x, ".e", 60000);
    }

    /** "of several by the kind that is told first above" */
    private static void byTheKindToldFirst() {
        dueRoute("a", "a b(0);a=b", "b", "0a 1b");
        dueRoute("a", "b={a}(0);a=b", "b", "0a 1b");
        dueRoute("a", "a={b};a=b", "b", "0a 1b");
        dueRoute("a", "b={a}(5);a b(5)", "b", "0a 2b");
        dueRoute("a", "b={a}(4);a b(5)", "b", "0a 3b");
        dueRoute("a", "b={a}(5);a b(70005);gated{b}", "b", "0a 2b");
        dueRoute("a", "b={a}(5);a b(70006);gated{b}", "b", "0a 3b");
        dueRoute("a", "a={b};a b(0)", "b", "0a 2b");
        dueRoute("a", "a={b};a b(1)", "b", "0a 4b");
        dueRoute("a", "a={b};b={a}(0)", "b", "0a 3b");
        dueRoute("a", "a={b};b={a}(1)", "b", "0a 4b");
        dueRoute("a", "a={b};b={a}(0);a b(0);a=b", "b", "0a 1b");
        dueRoute("a", "a={b};b={a}(0);a b(0)", "b", "0a 2b");
        // A RIGHT LINK or OUT leads to another state, and there the kind is not asked for.
        dueRoute("a", "b={a}(5);a @b(5)", "b", "0a 3b");
        dueRoute("a", "b={a}(5);a @b(4)", "b", "0a 2b");
        dueRoute("a", "a=@{b};b={a}(0)", "b", "0a 3b");
        dueRoute("a", "a=@{b};a b(0)", "b", "0a 2b");
        dueRoute("a", "a={b};a @b(0)", "b", "0a 4b");
    }

    /** "The route of a node is, of the best ways for all states, the one with the least cost, then with the fewest steps, then with the lowest state." */
    private static void ofTheBestWaysForAllStates() {
        String[] texts = {
            "a @b(1),c(1);c b(0)", "a @b(1),c(1);c b(1)", "a @b(2),c(1);c b(0)", "a @b(1),c(0);c b(0)",
            "a c(1),@d(1);c b(1);d @b(1)", "a @d(1),c(1);d @b(1);c b(1)", "a @d(1),c(1);d @b(0);c b(1)", "a @d(1),c(1);d @b(1);c b(0)"};
        int[] states = {1, 1, 0, 0, 0, 0, 1, 0};
        String[] routes = {"0a 2b", "0a 2b", "0a 2c 2b", "0a 2c 2b", "0a 2c 2b", "0a 2c 2b", "0a 2d 2b", "0a 2c 2b"};
        for (int i = 0; i < texts.length; i++) {
            MailRouter x = Check.router("a", texts[i]);
            CHECK.due("state in " + texts[i], x.state(Check.lookUp(x, "b")), states[i]);
            CHECK.dueRoute(x, "b", routes[i]);
        }
        // INSIDE is a higher state than RIGHT, and both are higher still.
        MailRouter x = Check.router(".h", ".h m(1),.k(1);m .t(1);.k @.t(60001)");
        CHECK.due("RIGHT ahead of INSIDE", x.state(Check.lookUp(x, ".t")), 1);
        CHECK.dueCost(x, ".t", 60002);
        x = Check.router(".h", ".h m(1),.k(1);m .t(1);.k @.t(60002)");
        CHECK.due("INSIDE for less", x.state(Check.lookUp(x, ".t")), 2);
        x = Check.router(".h", ".h @m(1),k(1);m @.t(1);k .t(1)");
        CHECK.due("INSIDE ahead of both", x.state(Check.lookUp(x, ".t")), 2);
        x = Check.router(".h", ".h @m(1),k(1);m @.t(0);k .t(1)");
        CHECK.due("both for less", x.state(Check.lookUp(x, ".t")), 3);
    }

    /** "up to that node it is the best way for that state" */
    private static void upToThatNode() {
        // To c for itself the RIGHT way is best; to d it goes by the way that is not RIGHT, at its own costs.
        MailRouter x = Check.router("a", "a @c(1),b(10);b c(10);c d(1)");
        CHECK.dueRoute(x, "c", "0a 2c");
        CHECK.dueRoute(x, "d", "0a 2b 2c 2d");
        int d = Check.lookUp(x, "d");
        int[] costs = {0, 10, 20, 21};
        for (int place = 0; place < costs.length; place++) {
            CHECK.due("costAt " + place, x.costAt(d, place), costs[place]);
        }
        CHECK.dueRoute(Check.router("a", "a @c(1),b(10);b c(49990);c d(1)"), "d", "0a 2b 2c 2d");
        CHECK.dueRoute(Check.router("a", "a @c(1),b(10);b c(49991);c d(1)"), "d", "0a 2c 2d");
        CHECK.dueRoute(Check.router("a", "a @c(1),b(10);b c(49992);c d(1)"), "d", "0a 2c 2d");
        // A way may come by the same node in two states: only its cost is told by the least of them.
        x = Check.router("a", "a b(1);b @c(1);c @b(1);b d(1)");
        CHECK.dueRoute(x, "b", "0a 2b");
        CHECK.dueRoute(x, "d", "0a 2b 2d");
    }

    /** "The home itself has the way without steps, with the state 0." */
    private static void theHomeItself() {
        for (String text : new String[] {"a=b", "a b(0);b a(0)", "a @b(0);b @a(0)", "n={a}(0)", ".n={a};a .n(0)", "a={b}(0);b=@{a}(0)"}) {
            MailRouter x = Check.router("a", text);
            int a = Check.lookUp(x, "a");
            CHECK.due("cost of the home", x.cost(a), 0);
            CHECK.due("costByRounds of the home", x.costByRounds(a), 0);
            CHECK.due("steps of the home", x.steps(a), 0);
            CHECK.due("state of the home", x.state(a), 0);
            CHECK.due("node at its place 0", x.nodeAt(a, 0), a);
            CHECK.due("step at its place 0", x.stepAt(a, 0), MailRouter.BEGIN);
            CHECK.due("cost at its place 0", x.costAt(a, 0), 0);
            CHECK.dueThrow("its place 1", IndexOutOfBoundsException.class, () -> x.nodeAt(a, 1));
            CHECK.duePrint(x, "a", "%");
        }
        MailRouter x = Check.router(".a", ".a b;dead{.a};gated{.a}");
        CHECK.dueCost(x, ".a", 0);
        CHECK.due("state of a domain that is home", x.state(0), 0);
    }

    // ---- names on a way, printed ways

    /** "its name, and behind it, if the way came by LINK, BACK or OUT from a domain, the name of that domain on the way" */
    private static void theNameOnAWay() {
        duePrint("h", "h .d;.d t", "t", "t.d!%");
        duePrint("h", "h .d;.d @t", "t", "%@t.d");
        duePrint("h", "h .d;.d={t}", "t", "t.d!%");
        duePrint("h", "h .d;t .d", "t", "t.d!%");
        duePrint("h", "h .d;.d=t", "t", "%");
        duePrint("h", "h d;d t", "t", "d!t!%");
        duePrint("h", "h d;d={t}", "t", "t!%");
        duePrint("h", "h d.;d. t", "t", "d.!t!%");
        duePrint(".d", ".d t", "t", "t.d!%");
        duePrint(".", ". t", "t", "t.!%");
        // The domain's own name on the way.
        duePrint("h", "h .d;.d .e;.e t", "t", "t.e.d!%");
        duePrint("h", "h .d;.d={.e};.e={t}", "t", "t.e.d!%");
        duePrint("h", "h .d;.e .d;t .e", "t", "t.e.d!%");
        duePrint("h", "h .d;.d=.e;.e t", "t", "t.e!%");
        duePrint("h", "h .d;.e={.d};.e t", "t", "t.e!%");
        duePrint("h", "h .d;.d .e;.e .f;.f t", "t", "t.f.e.d!%");
        duePrint("h", "h .d;.d .e;.e=.f;.f t", "t", "t.f!%");
        duePrint("h", "h .d;.d=.e;.e .f;.f t", "t", "t.f.e!%");
        // What is not a domain ends it.
        duePrint("h", "h .d;.d m;m .e;.e t", "t", "m.d!t.e!%");
        duePrint("h", "h .d;.d m;m t", "t", "m.d!t!%");
        duePrint("h", "h .d;.d n;n={t}", "t", "t!%");
    }

    /** "It begins with %; for each LINK, BACK or OUT to a HOST that is LEFT, the name on the way and ! come right ahead of the %, for one that is RIGHT, @ and the name come right behind it; other steps print nothing." */
    private static void aWayIsPrinted() {
        duePrint("h", "h t", "h", "%");
        duePrint("h", "h t", "t", "t!%");
        duePrint("h", "h @t", "t", "%@t");
        duePrint("h", "t @h", "t", "t!%");
        duePrint("h", "h={t}", "t", "t!%");
        duePrint("h", "h=@{t}", "t", "%@t");
        duePrint("h", "h=t", "t", "%");
        duePrint("h", "t={h}", "t", "%");
        duePrint("h", "h t;t={x}", "t", "%");
        duePrint("h", "h @t;t={x}", "t", "%");
        duePrint("h", "h={t};t={x}", "t", "%");
        duePrint("h", "t h;t={x}", "t", "%");
        duePrint("h", "h .t", ".t", "%");
        duePrint("h", "h @.t", ".t", "%");
        duePrint("h", "h={.t}", ".t", "%");
        duePrint("h", ".t h", ".t", "%");
        duePrint("h", "h a;a b;b c", "c", "a!b!c!%");
        duePrint("h", "h @a;a @b;b @c", "c", "%@c@b@a");
        duePrint("h", "h a;a @b;b c;c @d", "d", "a!c!%@d@b");
        duePrint("h", "h @a;a b;b @c;c d", "d", "b!d!%@c@a");
        duePrint("h", "h a;a=b;b c", "c", "a!c!%");
        duePrint("h", "h a;t u", "t", "");
        duePrint("h", "h a;t u", "u", "");
        duePrint("z", "h a", "h", "");
        duePrint("", "h a", "a", "");
    }

    /** The longest ways that there are: 24 nodes, in names of 8 bytes. */
    private static void theLongestWays() {
        for (String mark : new String[] {"", "@"}) {
            StringBuilder text = new StringBuilder("aaaaaaaa");
            StringBuilder want = new StringBuilder("%");
            for (char c = 'b'; c <= 'x'; c++) {
                String name = String.valueOf(c).repeat(8);
                text.append(" ").append(mark).append(name).append("(1);").append(name);
                want.insert(mark.isEmpty() ? want.length() - 1 : 1, mark.isEmpty() ? name + "!" : "@" + name);
            }
            text.setLength(text.lastIndexOf(";"));
            MailRouter x = Check.router("aaaaaaaa", text.toString());
            CHECK.due("nodes", x.nodes(), 24);
            CHECK.due("steps", x.steps(23), 23);
            CHECK.dueCost(x, "xxxxxxxx", 23);
            CHECK.due("the last node", x.nodeAt(23, 23), 23);
            CHECK.dueThrow("behind it", IndexOutOfBoundsException.class, () -> x.nodeAt(23, 24));
            CHECK.duePrint(x, "xxxxxxxx", want.toString());
            String rest = "r".repeat(591);
            CHECK.dueRewrite(x, "xxxxxxxx!" + rest, want.toString().replace("%", rest));
        }
    }

    // ---- addresses

    /** "its parts are what stands ahead of each !, up to the one before it, if any, and its rest is what stands behind the last one" */
    private static void partsAndRest() {
        String text = "h a;h b;b c;h bb";
        String[][] addresses = {
            {"", ""}, {"!", "!"}, {"!!", "!!"}, {"a", "a"}, {"a!", "a!"}, {"!a", "!a"}, {"!a!", "a!"}, {"a!b", "a!b"}, {"c!b", "b!c!b"},
            {"c!", "b!c!"}, {"!c!", "b!c!"}, {"c!!", "b!c!!"}, {"x!c!", "b!c!"}, {"c!x!y", "b!c!x!y"}, {"xc!y", "xc!y"}, {"cx!y", "cx!y"},
            {"c", "c"}, {"bb!c", "bb!c"}, {"bc!y", "bc!y"}, {"x!y!z", "x!y!z"}, {"c !y", "c !y"}, {" c!y", " c!y"}, {"c\n!y", "c\n!y"},
            {"c!y\n", "b!c!y\n"}, {"h!y", "y"}, {"h!", ""}, {"c!%", "b!c!%"}, {"%!c!%", "b!c!%"}};
        for (String[] a : addresses) {
            dueRewrite("h", text, a[0], a[1]);
        }
    }

    /** "A part is known if a node that is not private has just that name, and a route" */
    private static void aPartIsKnown() {
        dueRewrite("h", "h a;a t", "t!y", "a!t!y");
        dueRewrite("h", "h a;a t;n={t}", "n!y", "a!t!y");
        dueRewrite("h", "h a;a .t", ".t!y", "a!y");
        dueRewrite("h", "h a;private{t};a t", "t!y", "t!y");
        dueRewrite("h", "h a;t u", "t!y", "t!y");
        dueRewrite("", "h t", "t!y", "t!y");
        dueRewrite("z", "h t", "t!y", "t!y");
        dueRewrite("h", "h abcdefgh", "abcdefgh!y", "abcdefgh!y");
        dueRewrite("h", "h a;a abcdefgh", "abcdefgh!y", "a!abcdefgh!y");
        dueRewrite("h", "h a;a abcdefgh", "abcdefg!y", "abcdefg!y");
        dueRewrite("h", "h a;a abcdefgh", "abcdefghi!y", "abcdefghi!y");
        dueRewrite("h", "h a;a abcdefgh", "abcdefgh\0!y", "abcdefgh\0!y");
        // Of a private node and another one of the same name, the other one.
        MailRouter x = Check.router("h", "private{t};h a;a t", "h b;b t");
        CHECK.dueRewrite(x, "t!y", "b!t!y");
        x.drop(1);
        CHECK.dueRewrite(x, "t!y", "t!y");
    }

    /** "or else, if it ends with the name of such a DOMAIN, and is longer; of several domains the longest name counts" */
    private static void orElseByADomain() {
        String text = "h a,b,c;a .e;b .d.e;c .c.d.e;private{.q.e};c .q.e;.z.e=.y.e;h far;far x.e";
        String[][] addresses = {
            {".e!y", "a!y"}, {"q.e!y", "a!q.e!y"}, {"..e!y", "a!..e!y"}, {"e!y", "e!y"}, {"qe!y", "qe!y"}, {"q.e.!y", "q.e.!y"},
            {".d.e!y", "b!y"}, {"q.d.e!y", "b!q.d.e!y"}, {"qd.e!y", "a!qd.e!y"}, {"d.e!y", "a!d.e!y"}, {".x.d.e!y", "b!.x.d.e!y"},
            {".c.d.e!y", "c!y"}, {"q.c.d.e!y", "c!q.c.d.e!y"}, {"c.d.e!y", "b!c.d.e!y"},
            // Of those that are private, or have no route, another one counts.
            {".q.e!y", "a!.q.e!y"}, {"x.q.e!y", "a!x.q.e!y"}, {".z.e!y", "a!.z.e!y"}, {"x.z.e!y", "a!x.z.e!y"},
            // A node of just that name goes ahead of all domains.
            {"x.e!y", "far!x.e!y"}, {"xx.e!y", "a!xx.e!y"},
            {"Q.E!y", "Q.E!y"}, {"? \u00ff.e!y", "a!? \u00ff.e!y"}, {"averylongname.e!y", "a!averylongname.e!y"}};
        for (String[] a : addresses) {
            dueRewrite("h", text, a[0], a[1]);
        }
        // Whichever of the domains comes first.
        for (String order : new String[] {"a .e;b .d.e;c .c.d.e", "c .c.d.e;b .d.e;a .e", "b .d.e;c .c.d.e;a .e", "b .d.e;a .e;c .c.d.e"}) {
            dueRewrite("h", "h a,b,c;" + order, "q.e!y", "a!q.e!y");
            dueRewrite("h", "h a,b,c;" + order, "q.d.e!y", "b!q.d.e!y");
            dueRewrite("h", "h a,b,c;" + order, "q.c.d.e!y", "c!q.c.d.e!y");
        }
        // A net or host whose name a part ends with is no domain.
        dueRewrite("h", "h a;a t.e;t={x}", "qt.e!y", "qt.e!y");
        dueRewrite("h", "h a;a t;t={x}", "qt!y", "qt!y");
        dueRewrite("h", "h .;. t", "q.!y", "q.!y");
        dueRewrite("h", "h a;a .", "q.!y", "a!q.!y");
        dueRewrite("h", "h a;a .", "q!y", "q!y");
    }

    /** "The last part that is known is looked at" */
    private static void theLastPartThatIsKnown() {
        String text = "h a,b;a c;b .d;u v";
        String[][] addresses = {
            {"c!a!y", "a!y"}, {"a!c!y", "a!c!y"}, {"a!b!c!y", "a!c!y"}, {"c!u!y", "a!c!u!y"}, {"c!x!y", "a!c!x!y"}, {"x!c!u!v!y", "a!c!u!v!y"},
            {"c!q.d!y", "b!q.d!y"}, {"q.d!c!y", "a!c!y"}, {"q.d!x!y", "b!q.d!x!y"}, {"q.d!c", "b!q.d!c"}, {"c!!!", "a!c!!!"}, {"c!c!c!y", "a!c!y"}};
        for (String[] a : addresses) {
            dueRewrite("h", text, a[0], a[1]);
        }
    }

    /** "with a domain, the printed route of that, where the part and ! come right ahead of the %; in both the % becomes all that stands behind the ! of that part" */
    private static void thePercentSignBecomes() {
        String text = "h @a;a b;b @t;b @.d;a .e;.e={t.e}";
        dueRewrite("h", text, "t!y", "b!y@t@a");
        dueRewrite("h", text, "t!", "b!@t@a");
        dueRewrite("h", text, "t!x!y", "b!x!y@t@a");
        dueRewrite("h", text, ".d!y", "b!y@a");
        dueRewrite("h", text, "q.d!y", "b!q.d!y@a");
        dueRewrite("h", text, "q.d!", "b!q.d!@a");
        dueRewrite("h", text, "q.d!x!y", "b!q.d!x!y@a");
        dueRewrite("h", text, "q.e!y", "q.e!y@a");
        // A % in the address is none of the printed route.
        dueRewrite("h", text, "t!%y%", "b!%y%@t@a");
        dueRewrite("h", text, "%.d!y", "b!%.d!y@a");
        dueRewrite("h", text, "q%.d!%", "b!q%.d!%@a");
    }

    /** "Without parts that are known it stays as it is." */
    private static void itStaysAsItIs() {
        MailRouter x = Check.router("h", "h a");
        String longest = "!x".repeat(300);
        for (String same : new String[] {"", "y", "%", "a", "a%y", "a@y", "x!y", "!", longest, "\0\u00ff!\0"}) {
            CHECK.dueRewrite(x, same, same);
        }
        CHECK.dueRewrite(new MailRouter(), "a!y", "a!y");
    }

    public static void main(String[] args) {
        theLeastCost();
        theFewestSteps();
        fromTheLowestNumber();
        byTheLowestStateThere();
        byTheKindToldFirst();
        ofTheBestWaysForAllStates();
        upToThatNode();
        theHomeItself();
        theNameOnAWay();
        aWayIsPrinted();
        theLongestWays();
        partsAndRest();
        aPartIsKnown();
        orElseByADomain();
        theLastPartThatIsKnown();
        thePercentSignBecomes();
        itStaysAsItIs();
        CHECK.end();
    }
}
