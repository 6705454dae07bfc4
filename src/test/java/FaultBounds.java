/** The boundaries that the document's sentences on FAULTS name: each code, its place, and which of several is told. */
public final class FaultBounds {
    private static final Check CHECK = new Check();

    private static final String FORTY = "a b;".repeat(40);

    /** "a place in the text, where the byte or token begins (from 0; its length for its end)" */
    private static void places() {
        CHECK.dueFault("?", 1, 0);
        CHECK.dueFault(" ?", 1, 1);
        CHECK.dueFault("a b ?", 1, 4);
        CHECK.dueFault("a b #?\n?", 1, 7);
        CHECK.dueFault("a b(7 12345)", 1, 6);
        CHECK.dueFault("a b(7 WORDS)", 1, 6);
        CHECK.dueFault("a b names", 1, 4);
        CHECK.dueFault("a", 1, 1);
        CHECK.dueFault("a ", 1, 2);
        CHECK.dueFault("a \t", 1, 3);
        CHECK.dueFault("a #", 1, 3);
        CHECK.dueFault("a # ?", 1, 5);
        CHECK.dueFault("a\n", 1, 1);
        CHECK.dueFault("a b" + ";".repeat(596) + "?", 1, 599);
        CHECK.dueFault("a" + " ".repeat(599), 1, 600);
        CHECK.dueFault("a " + "b,".repeat(299), 1, 600);
        CHECK.dueValueFault("", 1, 0);
        CHECK.dueValueFault(" ", 1, 1);
        CHECK.dueValueFault("?", 1, 0);
        CHECK.dueValueFault(" ".repeat(599) + "?", 1, 599);
        CHECK.dueValueFault(" ".repeat(600), 1, 600);
        CHECK.dueValueFault("1 +\t", 1, 4);
    }

    /** "2 a NAME has more than 8 bytes" */
    private static void moreThan8Bytes() {
        String eight = "abcdefgh";
        String nine = "abcdefghi";
        String[] before = {"", "a ", "a @", "a b,", "a b(1),@", "a=", "a=b,", "a={", "a={b,", "a=@{", "dead{", "dead{a,", "dead{a!",
            "dead{a!b,", "private{", "private{a,", "gated{", "gated{a,", "a b;", "a b;\n "};
        String[] behind = {" a", "", "(1)", "", ",@a", "", ",c", "}", "}(1)", "}", "}", "!b}", "}", "!a}", "}", ",b}", "}", "}", "=a", "={a}"};
        for (int i = 0; i < before.length; i++) {
            CHECK.dueStatements(before[i] + eight + behind[i], before[i].contains("a b;") ? 2 : 1);
            CHECK.dueFault(before[i] + nine + behind[i], 2, before[i].length());
            CHECK.dueFault(before[i] + nine.repeat(20), 2, before[i].length());
        }
        CHECK.dueStatements(".1-.9-.0 .......-", 1);
        CHECK.dueFault(".1-.9-.0- a", 2, 0);
        CHECK.dueFault("a ........-", 2, 2);
        CHECK.dueFault("a " + "b".repeat(598), 2, 2);
        CHECK.dueFault("b".repeat(600), 2, 0);
        // Nine bytes of which eight make another node's name are no name.
        CHECK.due("eight bytes", Check.router("", eight + " a").nodes(), 2);
        CHECK.due("names that differ in the eighth byte", Check.router("", eight + " abcdefgi,abcdefg,bbcdefgh").nodes(), 4);
        CHECK.due("setHome of eight bytes", Check.setHome(Check.router("", eight + " a"), eight), 0);
        CHECK.due("lookUp of eight bytes", Check.lookUp(Check.router("", eight + " a"), eight), 0);
        CHECK.due("lookUp of nine bytes", Check.lookUp(Check.router("", eight + " a"), nine), MailRouter.NONE);
        CHECK.due("lookUp of seven bytes", Check.lookUp(Check.router("", eight + " a"), "abcdefg"), MailRouter.NONE);
        CHECK.dueThrow("setHome of nine bytes", IllegalArgumentException.class,
            () -> Check.setHome(Check.router("", eight + " a"), nine));
    }

    /** "3 there is no such WORD", and "The words are LOCAL 25, ... LOW 5." */
    private static void noSuchWord() {
        String[] words = {"LOCAL", "DEDICATED", "DIRECT", "DEMAND", "HOURLY", "EVENING", "DAILY", "WEEKLY", "HIGH", "LOW"};
        int[] worths = {25, 95, 200, 300, 500, 1800, 5000, 30000, -5, 5};
        for (int i = 0; i < words.length; i++) {
            String word = words[i];
            CHECK.dueValue(word, worths[i]);
            CHECK.due("a cost of " + word, Check.router("", "a b(" + word + ")").linkCost(0, 1), Math.max(worths[i], 0));
            CHECK.dueValueFault(word + "X", 3, 0);
            CHECK.dueValueFault("X" + word, 3, 0);
            CHECK.dueValueFault(word.substring(1), 3, 0);
            CHECK.dueValueFault(word.substring(0, word.length() - 1), 3, 0);
            CHECK.dueValueFault(word.substring(0, word.length() - 1) + "Z", 3, 0);
            CHECK.dueValueFault("Q" + word.substring(1), 3, 0);
            CHECK.dueValueFault("1+" + word + word, 3, 2);
            CHECK.dueValueFault(word.toLowerCase(), 1, 0);
        }
        CHECK.dueFault("a b(NIGHTLY)", 3, 4);
        CHECK.dueFault("a={b}(1+ W )", 3, 9);
        CHECK.dueValueFault("A".repeat(600), 3, 0);
    }

    /** "4 a NUMBER above 1000000" */
    private static void aNumberAbove() {
        CHECK.dueValue("999999", 999999);
        CHECK.dueValue("1000000", 1000000);
        CHECK.dueValue("0", 0);
        CHECK.dueValue("0".repeat(600), 0);
        CHECK.dueValue("0".repeat(593) + "1000000", 1000000);
        CHECK.dueValueFault("0".repeat(593) + "1000001", 4, 0);
        CHECK.dueStatements("a b(1000000)", 1);
        CHECK.dueFault("a b(1000001)", 4, 4);
        String[] above = {"1000001", "1000002", "1000009", "1000010", "1100000", "2000000", "9999999", "10000000",
            "2147483647", "2147483648", "4294967295", "4294967296", "4294967297", "9223372036854775807", "9223372036854775808",
            "18446744073709551615", "18446744073709551616", "18446744073709551617", "18446744073709551621", "9".repeat(590)};
        for (String number : above) {
            CHECK.dueValueFault(number, 4, 0);
            CHECK.dueValueFault(" 1 -" + number, 4, 4);
            CHECK.dueValueFault("0*" + number, 4, 2);
        }
    }

    /** "or a result above 1000000 or below -1000000 ..., at the sign" */
    private static void aResultBeyond() {
        CHECK.dueValue("999999+1", 1000000);
        CHECK.dueValueFault("999999+2", 4, 6);
        CHECK.dueValueFault("1000000+1000000", 4, 7);
        CHECK.dueValue("0-999999-1", -1000000);
        CHECK.dueValueFault("0-999999-2", 4, 8);
        CHECK.dueValueFault("0-1000000-1000000", 4, 9);
        CHECK.dueValue("1000000-(0-0)", 1000000);
        CHECK.dueValueFault("1000000-(0-1)", 4, 7);
        CHECK.dueValue("(0-1000000)+(0-0)", -1000000);
        CHECK.dueValueFault("(0-1000000)+(0-1)", 4, 11);
        CHECK.dueValue("1000*1000", 1000000);
        CHECK.dueValueFault("1000*1001", 4, 4);
        CHECK.dueValue("1000*(0-1000)", -1000000);
        CHECK.dueValueFault("1001*(0-1000)", 4, 4);
        CHECK.dueValue("(0-1000)*(0-1000)", 1000000);
        CHECK.dueValueFault("(0-1000)*(0-1001)", 4, 8);
        // Results that would wrap around to small numbers in 32 bits.
        CHECK.dueValueFault("65536*65536", 4, 5);
        CHECK.dueValueFault("65537*65536", 4, 5);
        CHECK.dueValueFault("46341*46341", 4, 5);
        CHECK.dueValueFault("4096*(0-1048)*1024", 4, 4);
        CHECK.dueValueFault("1000000*1000000", 4, 7);
        CHECK.dueValueFault("(0-1000000)*1000000", 4, 11);
        // A result on the way counts, also if what follows brings it back.
        CHECK.dueValueFault("1000000+1-1", 4, 7);
        CHECK.dueValueFault("1000000*2/2", 4, 7);
        CHECK.dueValue("1000000/2*2", 1000000);
        CHECK.dueValueFault("5-(1000000+1)*0", 4, 10);
        CHECK.dueValue("1000000+1*0", 1000000);
        CHECK.dueValue("1000000-1+1", 1000000);
        CHECK.dueValue("0-1000000+1000000", 0);
        CHECK.dueFault("a b(1000000+1)", 4, 11);
        CHECK.dueFault("a b(1),@c(0-1000000-1)", 4, 19);
        CHECK.dueFault("a={b}(1000*1001)", 4, 10);
        CHECK.dueStatements("a b(999999+1),c(0-1000000)", 1);
    }

    /** "or a division by 0, at the sign" */
    private static void aDivisionBy0() {
        CHECK.dueValue("1/1", 1);
        CHECK.dueValue("1/(0-1)", -1);
        CHECK.dueValue("0/1", 0);
        CHECK.dueValueFault("1/0", 4, 1);
        CHECK.dueValueFault("0/0", 4, 1);
        CHECK.dueValueFault("1 / 0", 4, 2);
        CHECK.dueValueFault("1/(1-1)", 4, 1);
        CHECK.dueValueFault("1/(LOW+HIGH)", 4, 1);
        CHECK.dueValueFault("1/(1/2)", 4, 1);
        CHECK.dueValueFault("(0-1)/0", 4, 5);
        CHECK.dueValueFault("1-2*3/0+4", 4, 5);
        CHECK.dueValue("0/1*0/1", 0);
        CHECK.dueFault("a b(1/0)", 4, 5);
        CHECK.dueFault("a={b}(7/000)", 4, 7);
    }

    /** "5 a 41st statement" */
    private static void a41stStatement() {
        String[] statements = {"a b", "a=b", "a={b}", "dead{a}", "private{a}", "gated{a}", "a @b(1)"};
        for (String one : statements) {
            CHECK.dueStatements(("a b;").repeat(38) + one, 39);
            CHECK.dueStatements(("a b;").repeat(39) + one, 40);
            CHECK.dueFault(FORTY + one, 5, 160);
            String many = (one + ";").repeat(40);
            CHECK.dueStatements(many, 40);
            CHECK.dueFault(many + one, 5, many.length());
            CHECK.dueFault(many + " #\n\t" + one + ";a", 5, many.length() + 4);
        }
        CHECK.dueStatements(FORTY + ";\n; # a b", 40);
        CHECK.dueStatements(FORTY + ";".repeat(440), 40);
        CHECK.dueStatements(";".repeat(440) + FORTY, 40);
        // The statements of each file are counted for themselves.
        MailRouter x = new MailRouter();
        for (int file = 0; file < 4; file++) {
            CHECK.due("40 in each file", Check.load(x, file, FORTY), 40);
        }
        CHECK.dueRefused("41 in one of them", () -> aheadOfTheSameFault(FORTY + "a b"), y -> y.load(2),
            IllegalStateException.class, true);
        Check.feed(x, FORTY + "a b");
        CHECK.dueThrow("41 in one of them", IllegalStateException.class, () -> x.load(2));
        CHECK.due("its code", x.fault(false), 5);
        CHECK.due("its place", x.fault(true), 160);
        CHECK.due("the file stays", x.drop(2), 40);
    }

    /** A router whose latest load had the fault that it will have again with the text that is on its tape. */
    private static MailRouter aheadOfTheSameFault(String text) {
        MailRouter x = Check.router("a", "a b(1)", "b c(2)", "c d(3)");
        Check.feed(x, text);
        CHECK.dueThrow("a fault ahead", IllegalStateException.class, () -> x.load(3));
        Check.feed(x, text);
        return x;
    }

    /** Links from one node to others: so many nodes. */
    private static String star(String center, char first, int leaves) {
        StringBuilder text = new StringBuilder(center);
        for (int i = 0; i < leaves; i++) {
            text.append(i == 0 ? ' ' : ',').append((char) (first + i));
        }
        return text.toString();
    }

    /** "6 there would be more than 24 nodes, by all files, at the end" */
    private static void moreThan24Nodes() {
        for (int leaves : new int[] {22, 23}) {
            MailRouter x = Check.router("", star("zz", 'a', leaves));
            CHECK.due("nodes", x.nodes(), leaves + 1);
            CHECK.due("the last one", Check.lookUp(x, "" + (char) ('a' + leaves - 1)), leaves);
        }
        for (int leaves : new int[] {24, 25, 26}) {
            String text = star("zz", 'a', leaves);
            CHECK.dueFault(text, 6, text.length());
            CHECK.dueFault(text + ";\n # the end", 6, text.length() + 12);
            CHECK.dueFault(text + ";a b(", 1, text.length() + 5);
            CHECK.dueFault(text + ";abcdefghi a", 2, text.length() + 1);
            CHECK.dueFault(text + ";a b(NOW)", 3, text.length() + 5);
            CHECK.dueFault(text + ";a b(1/0)", 4, text.length() + 6);
            CHECK.dueFault(text + ";" + FORTY, 5, text.length() + 1 + 156);
        }
        String crowd = star("zz", 'a', 20);
        for (String more : new String[] {"x=y,z", "x={y,z}", "dead{x,y!z}", "gated{x,y,z}", "private{x,y,z}", "private{a,b,c}"}) {
            CHECK.dueStatements(crowd + ";" + more, 2);
            CHECK.dueFault(crowd + ",u;" + more, 6, crowd.length() + 3 + more.length());
        }
        // All kinds of statements with nodes for which there is no room.
        String all = star("zz", 'a', 23);
        for (String more : new String[] {"x y", "x @a(1)", "a x(1),y", "x=y", "a=x", "x=a", "x={a}", "x=@{y}", "a={x,b}", "dead{x}", "dead{x!y}", "dead{a!x}",
            "dead{x!a}", "private{x}", "gated{x}", "x x", "x=x", "x={x}", "dead{x!x}"}) {
            String text = all + ";" + more;
            CHECK.dueFault(text, 6, text.length());
            CHECK.dueFault(more + ";" + all, 6, text.length());
        }
        CHECK.dueStatements(all + ";a b;b=c;c={d};dead{e!f,g};gated{c}", 6);
        // A private name is another node than the one that has it ahead of that.
        CHECK.dueFault(all + ";private{a};a b", 6, all.length() + 15);
        // The same name told again, or told a second time as private, is no other node.
        CHECK.dueStatements(star("zz", 'a', 23) + ";" + star("a", 'a', 23), 2);
        CHECK.dueStatements("private{a};private{a};" + star("zz", 'a', 23), 3);
    }

    /** The same: "by all files". */
    private static void byAllFiles() {
        for (int last = 0; last < 4; last++) {
            MailRouter x = new MailRouter();
            for (int file = 0; file < 4; file++) {
                if (file != last) {
                    Check.load(x, file, star("zz", (char) ('a' + 6 * file), 6));
                }
            }
            CHECK.due("nodes of three files", x.nodes(), 19);
            int file = last;
            CHECK.due("22 nodes", Check.load(x, file, "private{zz};zz one,two"), 2);
            CHECK.due("nodes of all files", x.nodes(), 22);
            CHECK.due("24 nodes instead of them", Check.load(x, file, star("zz", (char) ('a' + 6 * file), 5)), 1);
            CHECK.due("nodes of all files", x.nodes(), 24);
            Check.feed(x, star("y", (char) ('a' + 6 * file), 5));
            CHECK.dueThrow("25 nodes", IllegalStateException.class, () -> x.load(file));
            CHECK.due("its code", x.fault(false), 6);
            CHECK.due("its place", x.fault(true), 11);
            CHECK.due("the nodes stay", x.nodes(), 24);
            CHECK.due("the file stays", x.linkCost(Check.lookUp(x, "zz"), Check.lookUp(x, "" + (char) ('a' + 6 * file))), 4000);
            CHECK.due("there is room without another one", x.drop((file + 1) % 4), 1);
            CHECK.due("now it goes in", Check.load(x, file, star("y", (char) ('a' + 6 * file), 5)), 1);
            CHECK.due("nodes", x.nodes(), 19);
        }
    }

    /** "One reads from left to right, and the first fault that one comes upon is told" */
    private static void theFirstFault() {
        CHECK.dueFault("a ? abcdefghi", 1, 2);
        CHECK.dueFault("abcdefghi ?", 2, 0);
        CHECK.dueFault("a b(NOW+1000001)", 3, 4);
        CHECK.dueFault("a b(1000001+NOW)", 4, 4);
        CHECK.dueFault("a b(1/0),?", 4, 5);
        CHECK.dueFault("a b;? c(1/0)", 1, 4);
        CHECK.dueFault("a b(1;NOW", 1, 5);
        CHECK.dueFault("abcdefghi abcdefghi", 2, 0);
        CHECK.dueValueFault("NOW?", 3, 0);
        CHECK.dueValueFault("1000001?", 4, 0);
        CHECK.dueValueFault("1?1000001", 1, 1);
        CHECK.dueValueFault("1*?/0", 1, 2);
    }

    /** "at one place 5 goes ahead of 1, and that ahead of 2, 3 and 4" */
    private static void atOnePlace() {
        for (String what : new String[] {")", "?", "\u00e9", "NOW", "1000001", "7", "=", "{a}", "@a", "!", "-", "\0", "abcdefghi", "abcdefghi b"}) {
            CHECK.dueFault(FORTY + what, 5, 160);
            CHECK.dueFault(FORTY.substring(4) + what, what.startsWith("abc") ? 2 : 1, 156);
        }
        for (String what : new String[] {"abcdefghi", "NOW", "1000001", "99999999999999999999"}) {
            CHECK.dueFault("a b " + what, 1, 4);
            CHECK.dueFault("a={b}" + what, 1, 5);
            CHECK.dueFault("dead{a " + what + "}", 1, 7);
            CHECK.dueFault("a b(1 " + what + ")", 1, 6);
            CHECK.dueValueFault("1 " + what, 1, 2);
            CHECK.dueValueFault("(1 " + what, 1, 3);
        }
        for (String what : new String[] {"NOW", "1000001"}) {
            CHECK.dueFault(what + " b", 1, 0);
            CHECK.dueFault("a " + what, 1, 2);
            CHECK.dueFault("a=" + what, 1, 2);
            CHECK.dueFault("a={" + what + "}", 1, 3);
            CHECK.dueFault("dead{a!" + what + "}", 1, 7);
        }
        CHECK.dueFault("a b(abcdefghi)", 1, 4);
        CHECK.dueValueFault("abcdefghi", 1, 0);
        CHECK.dueValueFault("1+abcdefghi", 1, 2);
        CHECK.dueFault("a=b" + "c".repeat(8), 2, 2);
    }

    /** "a result is worked out when all of its right side was read, ahead of what follows" */
    private static void whenAllOfItsRightSideWasRead() {
        String beyond = "1000000+1";
        for (String behind : new String[] {"", " ", "?", " ?", "NOW", "1000001 ", "+", "-", "+?", "+1000001", "-NOW", ")", ";", "\n", "(", ",", "abcdefghi", "@"}) {
            if (!behind.startsWith("1")) {
                CHECK.dueValueFault(beyond + behind, 4, 7);
                CHECK.dueFault("a b(" + beyond + behind, 4, 11);
            }
            CHECK.dueValueFault("(" + beyond + ")" + behind, 4, 8);
            CHECK.dueValueFault("1000*1001" + (behind.startsWith("1") ? " " : "") + behind, 4, 4);
        }
        // * and / belong to the right side of a + or - ahead of them, and are worked out first.
        CHECK.dueValueFault(beyond + "*", 1, 10);
        CHECK.dueValueFault(beyond + "/?", 1, 10);
        CHECK.dueValueFault(beyond + "*NOW", 3, 10);
        CHECK.dueValueFault(beyond + "*1000001", 4, 10);
        CHECK.dueValueFault(beyond + "/0", 4, 9);
        CHECK.dueValueFault(beyond + "*1", 4, 7);
        CHECK.dueValueFault(beyond + "*1 ?", 4, 7);
        CHECK.dueValueFault(beyond + "*1*?", 1, 12);
        CHECK.dueValue(beyond + "*0", 1000000);
        CHECK.dueValue(beyond + "/2", 1000000);
        CHECK.dueValueFault("1000*1001*?", 4, 4);
        CHECK.dueValueFault("1000*1001/0", 4, 4);
        CHECK.dueValueFault("1/0*?", 4, 1);
        // A bracket is read to its end.
        CHECK.dueValueFault("1000000+(1", 1, 10);
        CHECK.dueValueFault("1000000+(1?", 1, 10);
        CHECK.dueValueFault("1000000+(1)?", 4, 7);
        CHECK.dueValueFault("1000000+(1)*?", 1, 12);
        CHECK.dueValueFault("1000*(1001", 1, 10);
        CHECK.dueValueFault("1000*(1001)?", 4, 4);
        CHECK.dueValueFault("1000*(1000+1+?", 1, 13);
        CHECK.dueValueFault("1/(0", 1, 4);
        CHECK.dueValueFault("1/(0)?", 4, 1);
        CHECK.dueValueFault("1000000+(1000*1001", 4, 13);
        CHECK.dueFault("a b(1/0) ?", 4, 5);
        CHECK.dueFault("a b(1/0", 4, 5);
        CHECK.dueFault("a b(1/(0", 1, 8);
    }

    public static void main(String[] args) {
        places();
        moreThan8Bytes();
        noSuchWord();
        aNumberAbove();
        aResultBeyond();
        aDivisionBy0();
        a41stStatement();
        moreThan24Nodes();
        byAllFiles();
        theFirstFault();
        atOnePlace();
        whenAllOfItsRightSideWasRead();
        CHECK.end();
    }
}
