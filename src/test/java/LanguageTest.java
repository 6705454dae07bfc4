/** Promises 3, 5 and 6: what the language allows, what sums come to, and which fault is told where. */
public final class LanguageTest {
    private static final Check CHECK = new Check();

    private static void statements() {
        CHECK.dueStatements("", 0);
        CHECK.dueStatements(";;\n ;\t#;;a b", 0);
        CHECK.dueStatements("a b", 1);
        CHECK.dueStatements(";;a b;;\n;c d;\n", 2);
        CHECK.dueStatements("a b#x;y\nc d#(((\u00e9?", 2);
        CHECK.dueStatements(" a\t@ b ( 1 + ( LOW ) ) , c,@d ( 3 ) ", 1);
        CHECK.dueStatements("a = b , c", 1);
        CHECK.dueStatements("a = { b }", 1);
        CHECK.dueStatements("a=@{b,c,d}(5*DAILY)", 1);
        CHECK.dueStatements("dead {a,b!c,d}; private{a};gated {n,m}", 3);
        CHECK.dueStatements("dead a;dead=b;gated={c};private @d", 4);
        CHECK.dueStatements("a dead,private,gated;b={dead,private}", 2);
        CHECK.dueStatements(". ..;a-9. .-;abcdefgh a", 3);
        CHECK.dueStatements("a a;a=a;a={a};dead{a!a}", 4);
    }

    private static void misplaced() {
        CHECK.dueFault("a", 1, 1);
        CHECK.dueFault("a  ", 1, 3);
        CHECK.dueFault("a #b", 1, 4);
        CHECK.dueFault("a;b c", 1, 1);
        CHECK.dueFault("a\nb", 1, 1);
        CHECK.dueFault("a b c", 1, 4);
        CHECK.dueFault("a b,", 1, 4);
        CHECK.dueFault("a b,,c", 1, 4);
        CHECK.dueFault("a ,b", 1, 2);
        CHECK.dueFault("a @", 1, 3);
        CHECK.dueFault("a @@b", 1, 3);
        CHECK.dueFault("a B", 1, 2);
        CHECK.dueFault("a 5", 1, 2);
        CHECK.dueFault("a b-c(1", 1, 7);
        CHECK.dueFault("a -b", 1, 2);
        CHECK.dueFault("a b!c", 1, 3);
        CHECK.dueFault("a b\r\nc d", 1, 3);
        CHECK.dueFault("a b\u00e9", 1, 3);
        CHECK.dueFault("a b\0", 1, 3);
        CHECK.dueFault("a_b c", 1, 1);
        CHECK.dueFault("A b", 1, 0);
        CHECK.dueFault("1 b", 1, 0);
        CHECK.dueFault("=b", 1, 0);
        CHECK.dueFault("{a}", 1, 0);
        CHECK.dueFault("  )", 1, 2);
        CHECK.dueFault("ab{c}", 1, 2);
        CHECK.dueFault("a=", 1, 2);
        CHECK.dueFault("a=;", 1, 2);
        CHECK.dueFault("a=b,{c}", 1, 4);
        CHECK.dueFault("a=b(5)", 1, 3);
        CHECK.dueFault("a=@b", 1, 3);
        CHECK.dueFault("a=b,@c", 1, 4);
        CHECK.dueFault("a={}", 1, 3);
        CHECK.dueFault("a={b,}", 1, 5);
        CHECK.dueFault("a={b c}", 1, 5);
        CHECK.dueFault("a={@b}", 1, 3);
        CHECK.dueFault("a={b(5)}", 1, 4);
        CHECK.dueFault("a={b!c}", 1, 4);
        CHECK.dueFault("a={b", 1, 4);
        CHECK.dueFault("a={b},c", 1, 5);
        CHECK.dueFault("a={b}(1)(2)", 1, 8);
    }

    private static void misplacedInLists() {
        CHECK.dueFault("dead{}", 1, 5);
        CHECK.dueFault("dead{a!}", 1, 7);
        CHECK.dueFault("dead{a!b!c}", 1, 8);
        CHECK.dueFault("dead{a}(5)", 1, 7);
        CHECK.dueFault("dead{a", 1, 6);
        CHECK.dueFault("dead{a} b", 1, 8);
        CHECK.dueFault("dead\n{a}", 1, 4);
        CHECK.dueFault("dead #\n{a}", 1, 6);
        CHECK.dueFault("dead", 1, 4);
        CHECK.dueFault("private{a!b}", 1, 9);
        CHECK.dueFault("gated{a!b}", 1, 7);
        CHECK.dueFault("gated{@a}", 1, 6);
        CHECK.dueFault("deads{a}", 1, 5);
        CHECK.dueFault("a dead{b}", 1, 6);
    }

    private static void costsWithFaults() {
        CHECK.dueFault("a b()", 1, 4);
        CHECK.dueFault("a b(", 1, 4);
        CHECK.dueFault("a b(5", 1, 5);
        CHECK.dueFault("a b(5;", 1, 5);
        CHECK.dueFault("a b(5))", 1, 6);
        CHECK.dueFault("a b(c)", 1, 4);
        CHECK.dueFault("a b(-5)", 1, 4);
        CHECK.dueFault("a b(5\n)", 1, 5);
        CHECK.dueFault("a b(NOW)", 3, 4);
        CHECK.dueFault("a b(LOWER)", 3, 4);
        CHECK.dueFault("a b(1000001)", 4, 4);
        CHECK.dueFault("a={b}(1/0)", 4, 7);
        CHECK.dueFault("a b(2*600000", 4, 5);
        CHECK.dueFault("a b(1),c(2),d(1/0)", 4, 15);
    }

    private static void longNames() {
        CHECK.dueFault("abcdefghi b", 2, 0);
        CHECK.dueFault("a  abcdefghi", 2, 3);
        CHECK.dueFault("a=.bcdefghi.", 2, 2);
        CHECK.dueFault("private{abcdefgh,abcdefghij}", 2, 17);
        CHECK.dueFault("dead{a!abcdefghi}", 2, 7);
        CHECK.dueFault("abcdefghi ?", 2, 0);
        // Where a name cannot stand, it does not matter how long it is.
        CHECK.dueFault("a b abcdefghi", 1, 4);
        CHECK.dueFault("a b(abcdefghi)", 1, 4);
        CHECK.dueFault("a NOW", 1, 2);
        CHECK.dueFault("a b(5 NOW)", 1, 6);
        CHECK.dueFault("a 1000001", 1, 2);
    }

    private static String many(int count, String one) {
        return one.repeat(count);
    }

    private static void manyStatements() {
        CHECK.dueStatements(many(40, "a b;"), 40);
        CHECK.dueStatements(many(40, "a b;") + ";;# c d", 40);
        CHECK.dueStatements(many(39, "a b\n") + "dead{a}", 40);
        CHECK.dueFault(many(40, "a b;") + "a b", 5, 160);
        CHECK.dueFault(many(40, "a b;") + ";; dead{a}", 5, 163);
        CHECK.dueFault(many(40, "a b;") + ")", 5, 160);
        CHECK.dueFault(many(40, "a b;") + " \u00e9", 5, 161);
        CHECK.dueFault(many(40, "a b;") + "abcdefghi", 5, 160);
        CHECK.dueFault(many(39, "a b;") + "a ;c d", 1, 158);
        CHECK.dueFault(many(39, "a b;") + "a b ?", 1, 160);
    }

    private static String star(String center, int leaves) {
        StringBuilder text = new StringBuilder(center);
        for (int i = 0; i < leaves; i++) {
            text.append(i == 0 ? " " : ",").append((char) ('a' + i));
        }
        return text.toString();
    }

    private static void manyNodes() {
        CHECK.dueStatements(star("zz", 23), 1);
        String text = star("zz", 24);
        CHECK.dueFault(text, 6, text.length());
        CHECK.dueFault(text + " # \n", 6, text.length() + 4);
        CHECK.dueFault(text + ";?", 1, text.length() + 1);

        MailRouter x = Check.router("", "private{p,q}", star("zz", 20));
        CHECK.due("nodes", x.nodes(), 23);
        CHECK.due("a 24th node", Check.load(x, 3, "private{a};a b"), 2);
        CHECK.due("nodes", x.nodes(), 24);
        Check.feed(x, "x b");
        CHECK.dueThrow("a 25th node", IllegalStateException.class, () -> x.load(2));
        CHECK.due("code", x.fault(false), 6);
        CHECK.due("place", x.fault(true), 3);
        CHECK.due("nodes stay", x.nodes(), 24);
        CHECK.due("instead of another file", Check.load(x, 0, "private{p};p b"), 2);
        CHECK.due("nodes", x.nodes(), 23);
        CHECK.due("now there is room", Check.load(x, 2, "x b"), 1);
        CHECK.due("nodes", x.nodes(), 24);
    }

    private static void sums() {
        CHECK.dueValue("0", 0);
        CHECK.dueValue("1000000", 1000000);
        CHECK.dueValue("0000000000000001000000", 1000000);
        CHECK.dueValue("LOCAL", 25);
        CHECK.dueValue("DEDICATED", 95);
        CHECK.dueValue("DIRECT", 200);
        CHECK.dueValue("DEMAND", 300);
        CHECK.dueValue("HOURLY", 500);
        CHECK.dueValue("EVENING", 1800);
        CHECK.dueValue("DAILY", 5000);
        CHECK.dueValue("WEEKLY", 30000);
        CHECK.dueValue("HIGH", -5);
        CHECK.dueValue("LOW", 5);
        CHECK.dueValue("1-2-3", -4);
        CHECK.dueValue("1-(2-3)", 2);
        CHECK.dueValue("100/7/2", 7);
        CHECK.dueValue("100/(7/2)", 33);
        CHECK.dueValue("7/2*2", 6);
        CHECK.dueValue("2+3*4-5", 9);
        CHECK.dueValue("(2+3)*(4-5)", -5);
        CHECK.dueValue("(0-7)/2", -3);
        CHECK.dueValue("7/(0-2)", -3);
        CHECK.dueValue("HIGH/2", -2);
        CHECK.dueValue("0/5", 0);
        CHECK.dueValue("HIGH*200000", -1000000);
        CHECK.dueValue("999999+1-1000000-1000000", -1000000);
        CHECK.dueValue(" \t( 1 + 2 ) # + ", 3);
        CHECK.dueValue("(".repeat(299) + "1" + ")".repeat(299), 1);
        CHECK.dueValue("1" + "+1".repeat(299), 300);
    }

    private static void sumsWithFaults() {
        CHECK.dueValueFault("", 1, 0);
        CHECK.dueValueFault(" # ", 1, 3);
        CHECK.dueValueFault("-1", 1, 0);
        CHECK.dueValueFault("1+", 1, 2);
        CHECK.dueValueFault("1+ ", 1, 3);
        CHECK.dueValueFault("1++1", 1, 2);
        CHECK.dueValueFault("1 1", 1, 2);
        CHECK.dueValueFault("1a", 1, 1);
        CHECK.dueValueFault("LOWa", 1, 3);
        CHECK.dueValueFault("LOW5", 1, 3);
        CHECK.dueValueFault("()", 1, 1);
        CHECK.dueValueFault("(1", 1, 2);
        CHECK.dueValueFault("(1;", 1, 2);
        CHECK.dueValueFault("1)", 1, 1);
        CHECK.dueValueFault("1;", 1, 1);
        CHECK.dueValueFault("1\n", 1, 1);
        CHECK.dueValueFault("1#\n", 1, 2);
        CHECK.dueValueFault("1,2", 1, 1);
        CHECK.dueValueFault("?", 1, 0);
        CHECK.dueValueFault("(".repeat(600), 1, 600);
        CHECK.dueValueFault("NOW", 3, 0);
        CHECK.dueValueFault("1*AZ", 3, 2);
        CHECK.dueValueFault("@", 1, 0);
        CHECK.dueValueFault("[", 1, 0);
        CHECK.dueValueFault("1+LOWLOW", 3, 2);
        CHECK.dueValueFault("1000001", 4, 0);
        CHECK.dueValueFault("1+99999999999999999999", 4, 2);
        CHECK.dueValueFault("1000000+1", 4, 7);
        CHECK.dueValueFault("0-1000000-1", 4, 9);
        CHECK.dueValueFault("1000000*1000000", 4, 7);
        CHECK.dueValueFault("2 / 0", 4, 2);
        CHECK.dueValueFault("2/(LOW+HIGH)", 4, 1);
        CHECK.dueValueFault("(1/0", 4, 2);
    }

    /** A result is worked out when all of its right side was read, ahead of what follows. */
    private static void orderOfFaults() {
        CHECK.dueValueFault("1000000+1 ?", 4, 7);
        CHECK.dueValueFault("1000000+1 NOW", 4, 7);
        CHECK.dueValueFault("1000000+1)", 4, 7);
        CHECK.dueValueFault("1000000+1*?", 1, 10);
        CHECK.dueValueFault("1000000+1*NOW", 3, 10);
        CHECK.dueValueFault("1000000+1/0", 4, 9);
        CHECK.dueValueFault("1000000+(1", 1, 10);
        CHECK.dueValueFault("1000000+(1)", 4, 7);
        CHECK.dueValueFault("1000000*2*?", 4, 7);
        CHECK.dueValueFault("1000000+1+?", 4, 7);
        CHECK.dueValueFault("1000001+?", 4, 0);
        CHECK.dueFault("a b(1000000+1)?", 4, 11);
        CHECK.dueFault("a b(1000000+1", 4, 11);
        CHECK.dueFault("a b(1/0) abcdefghi", 4, 5);
    }

    private static void costsOfSums() {
        MailRouter x = Check.router("a", "a b(3-5),c(HIGH*1000),d(0),e,f(WEEKLY/DAILY),g(1000000);n={a}(1-2);m={a}");
        String[] names = {"b", "c", "d", "e", "f", "g"};
        int[] costs = {0, 0, 0, 4000, 6, 1000000};
        for (int i = 0; i < names.length; i++) {
            CHECK.due("link to " + names[i], x.linkCost(0, Check.lookUp(x, names[i])), costs[i]);
        }
        CHECK.due("member below 0", x.memberCost(0, Check.lookUp(x, "n")), 0);
        CHECK.due("member without cost", x.memberCost(0, Check.lookUp(x, "m")), 4000);
        CHECK.dueValue("3-5", -2);
    }

    public static void main(String[] args) {
        statements();
        misplaced();
        misplacedInLists();
        costsWithFaults();
        longNames();
        manyStatements();
        manyNodes();
        sums();
        sumsWithFaults();
        orderOfFaults();
        costsOfSums();
        CHECK.end();
    }
}
