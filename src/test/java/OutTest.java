/** Promises 24 to 26: printed routes, rewritten addresses, the words of the out. */
public final class OutTest {
    private static final Check CHECK = new Check();

    private static void print() {
        MailRouter x = Check.router("a", "a b(1);b c(1),@d(1);d @e(1);e f(1);f @g(1);h=g;n={h}(0);n={i};m=@{i}(0);m=@{j};u=v");
        CHECK.duePrint(x, "a", "%");
        CHECK.duePrint(x, "b", "b!%");
        CHECK.duePrint(x, "c", "b!c!%");
        CHECK.duePrint(x, "d", "b!%@d");
        CHECK.duePrint(x, "e", "b!%@e@d");
        CHECK.duePrint(x, "f", "b!f!%@e@d");
        CHECK.duePrint(x, "g", "b!f!%@g@e@d");
        CHECK.duePrint(x, "h", "b!f!%@g@e@d");
        CHECK.duePrint(x, "n", "b!f!%@g@e@d");
        CHECK.duePrint(x, "i", "b!f!i!%@g@e@d");
        CHECK.duePrint(x, "j", "b!f!i!%@j@g@e@d");
        CHECK.duePrint(x, "u", "");
    }

    private static void printOfBack() {
        CHECK.duePrint(Check.router("b", "a b"), "a", "a!%");
        CHECK.duePrint(Check.router("b", "a @b"), "a", "a!%");
        CHECK.duePrint(Check.router(".b", "a @.b"), "a", "a.b!%");
        CHECK.duePrint(Check.router("b", "a={c};a b"), "a", "%");
    }

    private static void namesOnTheWay() {
        MailRouter x = Check.router("h", "h .edu(1);.edu={.rit,cs};.rit @a(1);.rit=b;a c(1);n={.rit}(1);n={d};.rit n;b e(1)");
        CHECK.duePrint(x, ".edu", "%");
        CHECK.duePrint(x, ".rit", "%");
        CHECK.duePrint(x, "cs", "cs.edu!%");
        CHECK.duePrint(x, "a", "%@a.rit.edu");
        CHECK.duePrint(x, "b", "%");
        CHECK.duePrint(x, "e", "e!%");
        CHECK.duePrint(x, "c", "c!%@a.rit.edu");
        CHECK.duePrint(x, "d", "d!%");
        // A domain that was come to by ALIAS or INTO has only its own name on the way.
        CHECK.duePrint(Check.router("h", "h .a(1);.a=.b;.b c(1)"), "c", "c.b!%");
        CHECK.duePrint(Check.router("h", ".a={h}(1);.a c(1)"), "c", "c.a!%");
        CHECK.duePrint(Check.router("h", "h .a(1);.b={.a}(1);.b c(1)"), "c", "c.b!%");
        CHECK.duePrint(Check.router("h", ".a h;.a=c;.b .a;.b d"), "d", "d.b.a!%");
        CHECK.duePrint(Check.router(".x", ".x a"), "a", "a.x!%");
        CHECK.duePrint(Check.router("h", "private{.p,q};h .p;.p q;q r"), "r", "q.p!r!%");
    }

    /** A row of domains, each linked to the next one, and at its end a host. */
    private static void longPrint() {
        StringBuilder text = new StringBuilder("h .aaaaaaa(0)");
        String want = "";
        for (char c = 'a'; c < 'w'; c++) {
            String next = c == 'v' ? "@abcdefgh" : "." + String.valueOf((char) (c + 1)).repeat(7);
            text.append(";.").append(String.valueOf(c).repeat(7)).append(' ').append(next).append("(0)");
            want = "." + String.valueOf(c).repeat(7) + want;
        }
        MailRouter x = Check.router("h", text.toString());
        CHECK.due("nodes", x.nodes(), 24);
        CHECK.duePrint(x, "abcdefgh", "%@abcdefgh" + want);
        CHECK.dueRewrite(x, "abcdefgh!" + "x".repeat(591), "x".repeat(591) + "@abcdefgh" + want);
    }

    private static void rewrite() {
        MailRouter x = Check.router("a", "a b(1);b c(1),@d(1);private{p};a p;q=r;.z=.w");
        CHECK.dueRewrite(x, "c!me", "b!c!me");
        CHECK.dueRewrite(x, "d!me", "b!me@d");
        CHECK.dueRewrite(x, "x!c!d!y!me", "b!y!me@d");
        CHECK.dueRewrite(x, "d!c", "b!c@d");
        CHECK.dueRewrite(x, "a!me", "me");
        CHECK.dueRewrite(x, "d!", "b!@d");
        CHECK.dueRewrite(x, "!d!!", "b!!@d");
        CHECK.dueRewrite(x, "c!me%x@y", "b!c!me%x@y");
        CHECK.dueRewrite(x, "c!\u00ff\u0001 !", "b!c!\u00ff\u0001 !");
        for (String same : new String[] {"", "me", "b", "!", "!!", "x!me", "p!me", "q!me", "cc!me", " c!me", "c !me", "C!me", ".z!me", "q.z!me"}) {
            CHECK.dueRewrite(x, same, same);
        }
        CHECK.due("the tape is used up", x.feed(97, 1), 1);
    }

    private static void rewriteByDomains() {
        MailRouter x = Check.router("h", "h b(1);b @.edu(1);.edu={.rit,a.edu}(0);.x.edu h;b .x.edu(1);.far=u.edu;h i(1);i .com(0)");
        CHECK.dueRewrite(x, "q.edu!me", "b!q.edu!me");
        CHECK.dueRewrite(x, "i.com!me", "i!i.com!me");
        CHECK.dueRewrite(x, "q.com!z!me", "i!q.com!z!me");
        CHECK.dueRewrite(x, ".com!me", "i!me");
        CHECK.dueRewrite(x, ".edu!me", "b!me");
        CHECK.dueRewrite(x, "a.edu!me", "b!a.edu.edu!me");
        CHECK.dueRewrite(x, "q.x.edu!me", "b!q.x.edu!me");
        // u.edu has no route: so it is known by the domain.
        CHECK.dueRewrite(x, "u.edu!me", "b!u.edu!me");
        CHECK.dueRewrite(x, "q.far!me", "q.far!me");
        CHECK.dueRewrite(x, "q%.com!me", "i!q%.com!me");
        CHECK.dueRewrite(x, "com!me", "com!me");
        CHECK.dueRewrite(x, "q.co!me", "q.co!me");
        CHECK.dueRewrite(x, "q.com.!me", "q.com.!me");
        CHECK.dueRewrite(x, "q.com!x.edu!you", "b!x.edu!you");
    }

    private static void theLongestDomain() {
        MailRouter x = Check.router("h", "h a(1),b(1),c(1);a .e(0);b .d.e(0);c .c.d.e(0);private{.b.c.d.e};h .b.c.d.e");
        CHECK.dueRewrite(x, "q.e!me", "a!q.e!me");
        CHECK.dueRewrite(x, "q.d.e!me", "b!q.d.e!me");
        CHECK.dueRewrite(x, "q.c.d.e!me", "c!q.c.d.e!me");
        CHECK.dueRewrite(x, ".c.d.e!me", "c!me");
        CHECK.dueRewrite(x, "x.d.e!me", "b!x.d.e!me");
    }

    private static void word() {
        MailRouter x = Check.router("", "abcdefgh i");
        x.name(0);
        CHECK.due("word(0)", x.word(0), 0x6867666564636261L);
        CHECK.due("word(1)", x.word(1), 0);
        Check.feed(x, "\u0080\u0000abcdefg\u00ff");
        CHECK.due("rewrite", x.rewrite(), 10);
        CHECK.due("the lowest byte comes first", x.word(0), 0x6665646362610080L);
        CHECK.due("0 behind the end", x.word(1), 0xff67L);
        for (int i : new int[] {2, 100, 1 << 28, 1 << 29, Integer.MAX_VALUE, -1, -2, Integer.MIN_VALUE}) {
            CHECK.due("word(" + i + ")", x.word(i), 0);
        }
        x.name(1);
        CHECK.due("a shorter out", x.word(0), 'i');
        CHECK.due("nothing of the longer one", x.word(1), 0);
        x.print(1);
        CHECK.due("an empty out", x.word(0), 0);
    }

    private static void whatLeavesTheOut() {
        MailRouter x = Check.router("a", "a b");
        x.print(1);
        CHECK.dueThrow("print of no node", IndexOutOfBoundsException.class, () -> x.print(2));
        CHECK.dueThrow("name of no node", IndexOutOfBoundsException.class, () -> x.name(-1));
        Check.feed(x, "c d(");
        CHECK.dueThrow("load", IllegalStateException.class, () -> x.load(1));
        Check.lookUp(x, "a");
        x.drop(0);
        CHECK.due("the out stays", Check.out(x), "b!%");
    }

    public static void main(String[] args) {
        print();
        printOfBack();
        namesOnTheWay();
        longPrint();
        rewrite();
        rewriteByDomains();
        theLongestDomain();
        word();
        whatLeavesTheOut();
        CHECK.end();
    }
}
