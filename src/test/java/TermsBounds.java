/** The boundaries that the document's Terms name down to "The language", sentence by sentence: texts, tape, files, tokens, statements, sums. */
public final class TermsBounds {
    private static final Check CHECK = new Check();

    private static final Class<IllegalStateException> STATE = IllegalStateException.class;

    // ---- texts, the tape and the files

    /** "All texts are bytes, told by their codes." */
    private static void allTextsAreBytes() {
        MailRouter x = new MailRouter();
        long packed = 0x0706050403020100L;
        for (int i = 0; i < 32; i++) {
            x.feed(packed + 0x0808080808080808L * i, 8);
        }
        CHECK.due("an address of all bytes", x.rewrite(), 256);
        for (int i = 0; i < 32; i++) {
            CHECK.due("its word " + i, x.word(i), packed + 0x0808080808080808L * i);
        }
        CHECK.due("behind them", x.word(32), 0);
    }

    /** "THE TAPE has 600 at most" */
    private static void theTapeHas600AtMost() {
        for (int size = 1; size <= 8; size++) {
            int n = size;
            MailRouter x = new MailRouter();
            Check.feed(x, "x".repeat(600 - n));
            CHECK.due("feed of " + n + " up to 600", x.feed(0x7979797979797979L, n), 600);
            CHECK.dueThrow("feed of one more", STATE, () -> x.feed(97, 1));
            CHECK.dueThrow("feed of eight more", STATE, () -> x.feed(97, 8));
            CHECK.due("600 bytes are on the tape", x.rewrite(), 600);
            CHECK.due("the last ones but for 8", x.word(74), n == 8 ? 0x7979797979797979L
                : 0x7878787878787878L >>> 8 * n | 0x7979797979797979L << 8 * (8 - n));
            CHECK.due("none behind them", x.word(75), 0);
            CHECK.dueRefused("feed of " + n + " up to 601", () -> tapeOf(601 - n), y -> y.feed(97, n), STATE, false);
            CHECK.due("what stays below 601", tapeOf(599 - n).feed(97, n), 599);
        }
        CHECK.due("the longest text", Check.load(new MailRouter(), 0, "a b #" + "\u00ff".repeat(595)), 1);
    }

    private static MailRouter tapeOf(int length) {
        MailRouter x = Check.router("a", "a b(1)");
        Check.feed(x, "z".repeat(length));
        return x;
    }

    private static void dueTape(String what, MailRouter x, int length) {
        CHECK.due("the tape behind " + what, x.feed(97, 1), length + 1);
    }

    /** "who takes it over uses it up, also a call that throws" */
    private static void whoTakesItOverUsesItUp() {
        MailRouter x = Check.router("a", "a b(1)");
        Check.load(x, 1, "b c");
        dueTape("load", x, 0);
        Check.feed(x, "?");
        CHECK.dueThrow("load of a fault", STATE, () -> x.load(1));
        dueTape("load of a fault", x, 0);
        for (int file : new int[] {-1, 4}) {
            Check.feed(x, " b");
            CHECK.dueThrow("load of no file", IndexOutOfBoundsException.class, () -> x.load(file));
            dueTape("load of no file", x, 0);
        }
        x.lookUp();
        CHECK.due("value", Check.value(x, "1+1"), 2);
        dueTape("value", x, 0);
        CHECK.dueThrow("value of a fault", STATE, () -> x.value());
        dueTape("value of a fault", x, 0);
        Check.setHome(x, "");
        dueTape("setHome", x, 0);
        Check.feed(x, "!");
        CHECK.dueThrow("setHome of no name", IllegalArgumentException.class, () -> x.setHome());
        dueTape("setHome of no name", x, 0);
        CHECK.due("lookUp", x.lookUp(), 0);
        dueTape("lookUp", x, 0);
        Check.lookUp(x, "?");
        dueTape("lookUp of no name", x, 0);
        x.rewrite();
        dueTape("rewrite", x, 0);
    }

    /** The same: who does not take it over leaves it. */
    private static void othersLeaveIt() {
        MailRouter x = Check.router("a", "a b(1)");
        Check.feed(x, "bcd");
        CHECK.dueThrow("feed of no number of bytes", IllegalArgumentException.class, () -> x.feed(97, 9));
        x.drop(3);
        CHECK.dueThrow("drop of no file", IndexOutOfBoundsException.class, () -> x.drop(4));
        x.fault(true);
        x.home();
        x.nodes();
        x.name(1);
        x.kind(0);
        x.isPrivate(0);
        x.linkCost(0, 1);
        x.memberCost(0, 1);
        x.cost(1);
        x.costByRounds(1);
        x.steps(1);
        x.state(1);
        x.nodeAt(1, 1);
        x.costAt(1, 1);
        x.stepAt(1, 1);
        x.isBack(1, 0);
        x.print(1);
        CHECK.dueThrow("print of no node", IndexOutOfBoundsException.class, () -> x.print(2));
        x.word(0);
        dueTape("calls that do not take it", x, 3);
        CHECK.due("all of it is there", x.rewrite(), 4);
        CHECK.due("as it was fed", Check.out(x), "bcda");
    }

    /** "There are the files 0 to 3; each has the text that was loaded last, at first an empty one." */
    private static void theFiles0To3() {
        for (int file = 0; file < 4; file++) {
            MailRouter x = new MailRouter();
            CHECK.due("the text at first", x.drop(file), 0);
            CHECK.due("load(" + file + ")", Check.load(x, file, "a b;b c"), 2);
            for (int other = 0; other < 4; other++) {
                CHECK.due("drop of an other file", other == file ? 0 : x.drop(other), 0);
            }
            CHECK.due("nodes of the file", x.nodes(), 3);
            CHECK.due("load(" + file + ") again", Check.load(x, file, "c d"), 1);
            CHECK.due("the text that was loaded last", x.nodes(), 2);
            CHECK.due("its statements", x.drop(file), 1);
            CHECK.due("drop of an empty one", x.drop(file), 0);
        }
        for (int number : new int[] {-1, 4, 5, 32, 256, 1 << 30, Integer.MAX_VALUE, Integer.MIN_VALUE, -4}) {
            CHECK.dueRefused("load(" + number + ")", TermsBounds::withFiles, x -> x.load(number),
                IndexOutOfBoundsException.class, true);
            CHECK.dueRefused("drop(" + number + ")", TermsBounds::withFiles, x -> x.drop(number),
                IndexOutOfBoundsException.class, false);
        }
    }

    private static MailRouter withFiles() {
        MailRouter x = Check.router("a", "a b(1);", "b c", "c @b", "d c");
        x.print(2);
        Check.feed(x, "b c");
        return x;
    }

    // ---- tokens

    /** Loads a text with a byte in it: so many statements, or fault 1 at a place if that is told as -1 - place. */
    private static void dueOfByte(String text, int due) {
        if (due >= 0) {
            CHECK.dueStatements(text, due);
        } else {
            CHECK.dueFault(text, 1, -1 - due);
        }
    }

    /** "A NAME begins with a letter a .. z or a point" */
    private static void aNameBeginsWith() {
        for (int b = 0; b < 256; b++) {
            boolean begins = b >= 'a' && b <= 'z' || b == '.';
            boolean skipped = b == 9 || b == ' ' || b == ';' || b == 10;
            dueOfByte((char) b + " y", begins ? 1 : b == '#' ? 0 : skipped ? -1 - 3 : -1);
        }
    }

    /** "and goes on with letters a .. z, digits, points and - as far as it can" */
    private static void aNameGoesOnWith() {
        for (int b = 0; b < 256; b++) {
            String text = "x" + (char) b + "z y";
            boolean goesOn = b >= 'a' && b <= 'z' || b >= '0' && b <= '9' || b == '.' || b == '-';
            if (goesOn) {
                MailRouter x = Check.router("", text);
                CHECK.due("nodes of " + text, x.nodes(), 2);
                x.name(0);
                CHECK.due("name in " + text, Check.out(x), text.substring(0, 3));
            } else {
                boolean stands = b == 9 || b == ' ' || b == '@' || b == '=';
                dueOfByte(text, stands ? -1 - 4 : b == '#' ? -1 - 5 : -1 - 1);
            }
        }
    }

    /** The same for the name that the tape is for setHome, which has nothing else. */
    private static void theNameOfTheHome() {
        for (int b = 0; b < 256; b++) {
            boolean begins = b >= 'a' && b <= 'z' || b == '.';
            boolean goesOn = begins || b >= '0' && b <= '9' || b == '-';
            MailRouter x = Check.router("a", "a b");
            String one = "" + (char) b;
            CHECK.dueThrow("setHome of the byte " + b, begins ? null : IllegalArgumentException.class,
                () -> Check.setHome(x, one));
            CHECK.dueThrow("setHome of a and the byte " + b, goesOn ? null : IllegalArgumentException.class,
                () -> Check.setHome(x, "a" + one));
        }
    }

    /** "a WORD is as many letters A .. Z, a NUMBER as many digits as there are" */
    private static void wordsAndNumbers() {
        for (int b = 0; b < 256; b++) {
            String alone = "" + (char) b;
            boolean skipped = b == 9 || b == ' ' || b == '#';
            if (b >= '0' && b <= '9') {
                CHECK.dueValue(alone, b - '0');
                CHECK.dueValue("1" + alone + "1", 101 + 10 * (b - '0'));
                CHECK.dueValueFault("LOW" + alone + "1", 1, 3);
            } else if (b >= 'A' && b <= 'Z') {
                CHECK.dueValueFault(alone, 3, 0);
                CHECK.dueValueFault("1" + alone + "1", 1, 1);
                CHECK.dueValueFault("LOW" + alone + "1", 3, 0);
            } else {
                int signed = "+-*/".indexOf(b);
                CHECK.dueValueFault(alone, 1, b == '(' || skipped ? 1 : 0);
                if (signed >= 0) {
                    CHECK.dueValue("1" + alone + "1", new int[] {2, 0, 1, 1}[signed]);
                    CHECK.dueValue("LOW" + alone + "1", new int[] {6, 4, 5, 5}[signed]);
                } else if (b == '#') {
                    CHECK.dueValue("1" + alone + "1", 1);
                } else {
                    CHECK.dueValueFault("1" + alone + "1", 1, skipped ? 2 : 1);
                    CHECK.dueValueFault("LOW" + alone + "1", 1, skipped ? 4 : 3);
                }
            }
        }
    }

    /** "The signs = @ { } ( ) , ! + - * / are tokens, and ; , which the byte 10 is, too." */
    private static void signsNeedNothingBetween() {
        CHECK.dueStatements("a=b,c;d=@{e,f}(1+(2-3)*4/5);dead{a!b};g@h(1),i", 4);
        CHECK.dueStatements("a=b,c\nd=@{e,f}(1+(2-3)*4/5)\ndead{a!b}\ng@h(1),i\n", 4);
        CHECK.dueStatements(" a = b\t,\tc ; d = @ { e , f } ( 1 + ( 2 - 3 ) * 4 / 5 ) ; dead { a ! b } ; g @ h ( 1 ) , i ", 4);
        CHECK.dueFault("a b\13", 1, 3);
        CHECK.dueFault("a b\r", 1, 3);
        CHECK.dueFault("a b\b", 1, 3);
        CHECK.dueFault("a b:c d", 1, 3);
        CHECK.dueFault("a b\u00a0", 1, 3);
    }

    /** "Blanks (9, 32), and # with all bytes up to the next byte 10, stand between tokens and mean nothing." */
    private static void remarks() {
        CHECK.dueStatements("#", 0);
        CHECK.dueStatements("##\n#\n\n#", 0);
        CHECK.dueStatements("#a b\nc d", 1);
        CHECK.dueStatements("a b#\nc d", 2);
        CHECK.dueStatements("a b#c d\n", 1);
        CHECK.dueStatements("a b#;c d;e", 1);
        CHECK.dueStatements("a b#\t\r\0\u00ff{(#!?;A 1000001\nc d", 2);
        CHECK.dueFault("a#b\n c", 1, 3);
        CHECK.dueFault("a b,#\nc", 1, 5);
        CHECK.dueFault("a b(1#)\n)", 1, 7);
        CHECK.dueFault("a #b", 1, 4);
        CHECK.dueFault("a # b c\r d", 1, 10);
        CHECK.dueValue("1 #+1", 1);
        CHECK.dueValue("\t 1\t+ 1\t ", 2);
        CHECK.dueValueFault("1#\n", 1, 2);
        CHECK.dueValueFault("#1\n1", 1, 2);
        CHECK.dueValueFault("#1", 1, 2);
        CHECK.dueValueFault("1 0", 1, 2);
        CHECK.dueValueFault("LO W", 3, 0);
        CHECK.dueFault("a\tb c", 1, 4);
        CHECK.dueFault("a-\t-b c", 1, 3);
    }

    // ---- statements

    /** "A text has statements, with one or several ; between them (and ahead of the first, behind the last, if any)." */
    private static void oneOrSeveralBetweenThem() {
        String[] breaks = {";", "\n", ";;", "\n\n", ";\n", "\n;", " ; ", ";#\n;", "\n\t\n"};
        for (String some : breaks) {
            CHECK.dueStatements(some, 0);
            CHECK.dueStatements("a b" + some + "c d", 2);
            CHECK.dueStatements(some + "a b", 1);
            CHECK.dueStatements("a b" + some, 1);
            CHECK.dueStatements(some + "a b" + some + "c d" + some, 2);
        }
        CHECK.dueStatements("", 0);
        CHECK.dueStatements(" \t ", 0);
        CHECK.dueStatements(";".repeat(600), 0);
        CHECK.dueFault("a b c d", 1, 4);
        CHECK.dueFault("a b(1)c d", 1, 6);
        CHECK.dueFault("a={b}c d", 1, 5);
        CHECK.dueFault("dead{a}b c", 1, 7);
        CHECK.dueFault("gated{a}gated{b}", 1, 8);
        CHECK.dueFault("a=b{c}", 1, 3);
    }

    /** "NAME TARGET, TARGET ... with TARGET as [@] NAME [(SUM)]: ... LEFT ones, with @ RIGHT ones" */
    private static void targets() {
        CHECK.dueStatements("a b", 1);
        CHECK.dueStatements("a @b(1)", 1);
        CHECK.dueStatements("a b,@b,b(1),@b(1)", 1);
        CHECK.dueStatements("a b" + ",b".repeat(298), 1);
        CHECK.dueFault("a", 1, 1);
        CHECK.dueFault("a;", 1, 1);
        CHECK.dueFault("a ,", 1, 2);
        CHECK.dueFault("a b,", 1, 4);
        CHECK.dueFault("a b,;", 1, 4);
        CHECK.dueFault("a b,,b", 1, 4);
        CHECK.dueFault("a @", 1, 3);
        CHECK.dueFault("a @@b", 1, 3);
        CHECK.dueFault("a b@", 1, 3);
        CHECK.dueFault("a (1)", 1, 2);
        CHECK.dueFault("a b(1)(1)", 1, 6);
        CHECK.dueFault("a b()", 1, 4);
        CHECK.dueFault("a b=c", 1, 3);
        CHECK.dueFault("a {b}", 1, 2);
        CHECK.dueFault("a b" + ",b".repeat(298) + ",", 1, 600);
        MailRouter x = Check.router("a", "a b(1),@c(2);a @d(3),e(4)");
        CHECK.duePrint(x, "b", "b!%");
        CHECK.duePrint(x, "c", "%@c");
        CHECK.duePrint(x, "d", "%@d");
        CHECK.duePrint(x, "e", "e!%");
    }

    /** "NAME = NAME, NAME ...: the first name and each of the others are aliases" */
    private static void aliases() {
        CHECK.dueStatements("a=b", 1);
        CHECK.dueStatements("a=b,c,d", 1);
        CHECK.dueFault("a=", 1, 2);
        CHECK.dueFault("a=b,", 1, 4);
        CHECK.dueFault("a=b c", 1, 4);
        CHECK.dueFault("a=b=c", 1, 3);
        CHECK.dueFault("a==b", 1, 2);
        CHECK.dueFault("=a", 1, 0);
        CHECK.dueFault("a=b(1)", 1, 3);
        CHECK.dueFault("a=@b", 1, 3);
        CHECK.dueFault("a=b,@c", 1, 4);
        CHECK.dueFault("a=b,{c}", 1, 4);
        MailRouter x = Check.router("a", "a=b,c;d=e");
        CHECK.dueRoute(x, "b", "0a 1b");
        CHECK.dueRoute(x, "c", "0a 1c");
        Check.setHome(x, "c");
        CHECK.dueRoute(x, "a", "0c 1a");
        CHECK.dueRoute(x, "b", "0c 1a 1b");
        // A node may be an alias of several ones, be they told on one side or the other.
        x = Check.router("a", "a=c;b=c;c=d;e=b,a");
        CHECK.dueRoute(x, "c", "0a 1c");
        CHECK.dueRoute(x, "b", "0a 1c 1b");
        CHECK.dueRoute(x, "e", "0a 1e");
        Check.setHome(x, "b");
        CHECK.dueRoute(x, "a", "0b 1c 1a");
        CHECK.dueRoute(x, "d", "0b 1c 1d");
        Check.setHome(x, "c");
        CHECK.dueRoute(x, "a", "0c 1a");
        CHECK.dueCost(Check.router("a", "a=b,c;d=e"), "d", MailRouter.NONE);
    }

    /** "NAME = [@] {NAME, NAME ...} [(SUM)]: the names in braces are members of the first one, which is a net" */
    private static void members() {
        CHECK.dueStatements("a={b}", 1);
        CHECK.dueStatements("a=@{b,c,b}(1)", 1);
        CHECK.dueFault("a={", 1, 3);
        CHECK.dueFault("a={}", 1, 3);
        CHECK.dueFault("a={b", 1, 4);
        CHECK.dueFault("a={b,}", 1, 5);
        CHECK.dueFault("a={b}(", 1, 6);
        CHECK.dueFault("a={b}()", 1, 6);
        CHECK.dueFault("a={b}(1", 1, 7);
        CHECK.dueFault("a={b},", 1, 5);
        CHECK.dueFault("a={b}}", 1, 5);
        CHECK.dueFault("a={{b}}", 1, 3);
        CHECK.dueFault("a=@@{b}", 1, 3);
        CHECK.dueFault("a={@b}", 1, 3);
        CHECK.dueFault("a={b}@", 1, 5);
        CHECK.dueFault("a=@", 1, 3);
        CHECK.dueFault("a=(1)", 1, 2);
        CHECK.dueFault("a{b}", 1, 1);
        MailRouter x = Check.router("", "a={b,c}(1);d=@{b}");
        CHECK.due("the first member", x.memberCost(1, 0), 1);
        CHECK.due("the last member", x.memberCost(2, 0), 1);
        CHECK.due("a net", x.kind(0), MailRouter.NET);
        CHECK.due("a net with @", x.kind(3), MailRouter.NET);
        CHECK.due("no member", x.memberCost(2, 3), MailRouter.NONE);
    }

    /** "dead {ITEM, ITEM ...} with ITEM as NAME ... or NAME ! NAME", "private {NAME, NAME ...}", "gated {NAME, NAME ...}" */
    private static void lists() {
        for (String word : new String[] {"dead", "private", "gated"}) {
            int at = word.length() + 1;
            CHECK.dueStatements(word + "{a}", 1);
            CHECK.dueStatements(word + "\t {a,b , c}", 1);
            CHECK.dueFault(word + "{", 1, at);
            CHECK.dueFault(word + "{}", 1, at);
            CHECK.dueFault(word + "{a", 1, at + 1);
            CHECK.dueFault(word + "{a,", 1, at + 2);
            CHECK.dueFault(word + "{a,}", 1, at + 2);
            CHECK.dueFault(word + "{a b}", 1, at + 2);
            CHECK.dueFault(word + "{a};?", 1, at + 3);
            CHECK.dueFault(word + "{a}(1)", 1, at + 2);
            CHECK.dueFault(word + "{a},b", 1, at + 2);
            CHECK.dueFault(word + "{@a}", 1, at);
            CHECK.dueFault(word + "{{a}}", 1, at);
            CHECK.dueFault(word + "={a}(1", 1, at + 5);
            CHECK.dueFault(word + "@{a}", 1, at);
        }
        CHECK.dueStatements("dead{a!b}", 1);
        CHECK.dueStatements("dead{a!b,c,d!e}", 1);
        CHECK.dueFault("dead{a!}", 1, 7);
        CHECK.dueFault("dead{!a}", 1, 5);
        CHECK.dueFault("dead{a!!b}", 1, 7);
        CHECK.dueFault("dead{a!b!c}", 1, 8);
        CHECK.dueFault("private{a!b}", 1, 9);
        CHECK.dueFault("gated{a!b}", 1, 7);
    }

    /** "(dead, private and gated at the beginning of a statement are these words if { follows, and names otherwise.)" */
    private static void theseWordsOrNames() {
        for (String word : new String[] {"dead", "private", "gated"}) {
            int length = word.length();
            MailRouter x = Check.router("", word + " {a}");
            CHECK.due(word + " is no node ahead of {", x.nodes(), 1);
            x = Check.router("", word + " a;" + word + "=b;" + word + "={c};a " + word + "," + word + "(1);a=" + word
                + ";a={" + word + "};" + word + "{" + word + "}");
            CHECK.due(word + " is a node otherwise", x.name(0), length);
            CHECK.due("its name", Check.out(x), word);
            CHECK.due("it is one node", x.nodes(), word.equals("private") ? 5 : 4);
            CHECK.dueFault(word + "\n{a}", 1, length);
            CHECK.dueFault(word + ";{a}", 1, length);
            CHECK.dueFault(word + "#{a}", 1, length + 4);
            CHECK.dueFault(word + "x{a}", 1, length + 1);
            CHECK.dueFault(word.substring(0, length - 1) + "{a}", 1, length - 1);
            CHECK.dueFault("x" + word + "{a}", 1, length + 1);
            CHECK.dueFault("a " + word + "{a}", 1, length + 2);
            CHECK.dueFault("a=" + word + "{a}", 1, length + 2);
            CHECK.dueFault(word + " " + word + "{a}", 1, 2 * length + 1);
        }
    }

    // ---- sums

    /** "A SUM is one or several PRODUCTs ..., a PRODUCT one or several FACTORs ..., a FACTOR a NUMBER, a WORD, or (SUM)." */
    private static void oneOrSeveral() {
        CHECK.dueValue("7", 7);
        CHECK.dueValue("LOW", 5);
        CHECK.dueValue("(7)", 7);
        CHECK.dueValue("7+8", 15);
        CHECK.dueValue("7*8", 56);
        CHECK.dueValue("1" + "+1".repeat(299), 300);
        CHECK.dueValue("1" + "*1".repeat(299), 1);
        CHECK.dueValue("1" + "-1".repeat(298) + " ", -297);
        CHECK.dueValue("(".repeat(299) + "7" + ")".repeat(299), 7);
        CHECK.dueValue("(1+".repeat(149) + "1" + ")".repeat(149), 150);
        CHECK.dueValue("2*(3+(4-(5/(6))))", 14);
        CHECK.dueValueFault("", 1, 0);
        CHECK.dueValueFault("()", 1, 1);
        CHECK.dueValueFault("+7", 1, 0);
        CHECK.dueValueFault("-7", 1, 0);
        CHECK.dueValueFault("7-", 1, 2);
        CHECK.dueValueFault("7*", 1, 2);
        CHECK.dueValueFault("7+-8", 1, 2);
        CHECK.dueValueFault("7*/8", 1, 2);
        CHECK.dueValueFault("7(8)", 1, 1);
        CHECK.dueValueFault("(7)8", 1, 3);
        CHECK.dueValueFault("(7)(8)", 1, 3);
        CHECK.dueValueFault("LOW LOW", 1, 4);
        CHECK.dueValueFault("(7", 1, 2);
        CHECK.dueValueFault("((7)", 1, 4);
        CHECK.dueValueFault("7)", 1, 1);
        CHECK.dueValueFault("(7))", 1, 3);
        CHECK.dueValueFault("low", 1, 0);
        CHECK.dueValueFault("(".repeat(300) + "7" + ")".repeat(299), 1, 600);
        CHECK.dueValueFault("(".repeat(600), 1, 600);
        CHECK.dueValueFault("(".repeat(299) + "7" + ")".repeat(300), 1, 599);
        CHECK.dueValueFault("1+".repeat(300), 1, 600);
    }

    /** "They are worked out from left to right" */
    private static void fromLeftToRight() {
        CHECK.dueValue("9-4-3", 2);
        CHECK.dueValue("9-4+3", 8);
        CHECK.dueValue("9/2*2", 8);
        CHECK.dueValue("9*2/4", 4);
        CHECK.dueValue("90/9/5", 2);
        CHECK.dueValue("1+2*3", 7);
        CHECK.dueValue("2*3+1", 7);
        CHECK.dueValue("9-2*3-1", 2);
        CHECK.dueValue("9-(2*3-1)", 4);
        CHECK.dueValue("9-8/4*2-1", 4);
        CHECK.dueValue("(9-8)/(4*2-1)", 0);
    }

    /** "/ is rounded towards 0" */
    private static void roundedTowards0() {
        int[][] quotients = {
            {7, 2, 3}, {-7, 2, -3}, {7, -2, -3}, {-7, -2, 3}, {1, 2, 0}, {-1, 2, 0}, {1, -2, 0}, {-1, -2, 0},
            {6, 2, 3}, {-6, 2, -3}, {5, 6, 0}, {-5, 6, 0}, {6, 6, 1}, {-6, 6, -1}, {0, 3, 0}, {0, -3, 0},
            {1000000, 999999, 1}, {-1000000, 999999, -1}, {999999, 1000000, 0}, {-1000000, -1, 1000000}};
        for (int[] q : quotients) {
            CHECK.dueValue("(0+" + signed(q[0]) + ")/" + signed(q[1]), q[2]);
        }
    }

    private static String signed(int number) {
        return number < 0 ? "(0-" + -number + ")" : Integer.toString(number);
    }

    /** "A cost below 0 is 0; where (SUM) is missing, the cost is 4000." */
    private static void aCostBelow0() {
        String[] costs = {"(0-2)", "(0-1)", "(HIGH)", "(0-1000000)", "(0)", "(1)", "(4000)", "(999999)", "(1000000)", ""};
        int[] due = {0, 0, 0, 0, 0, 1, 4000, 999999, 1000000, 4000};
        for (int i = 0; i < costs.length; i++) {
            MailRouter x = Check.router("a", "a b" + costs[i] + ";n={a}" + costs[i]);
            CHECK.due("a link of " + costs[i], x.linkCost(0, 1), due[i]);
            CHECK.due("a member of " + costs[i], x.memberCost(0, 2), due[i]);
            CHECK.dueCost(x, "b", due[i]);
            CHECK.dueCost(x, "n", due[i]);
        }
        MailRouter x = Check.router("", "a b(1),c,d(2);n={a}(3);m={a}");
        CHECK.due("missing between others", x.linkCost(0, 2), 4000);
        CHECK.due("behind one that is missing", x.linkCost(0, 3), 2);
        CHECK.due("missing behind another statement", x.memberCost(0, 5), 4000);
        CHECK.dueValue("0-1", -1);
    }

    public static void main(String[] args) {
        allTextsAreBytes();
        theTapeHas600AtMost();
        whoTakesItOverUsesItUp();
        othersLeaveIt();
        theFiles0To3();
        aNameBeginsWith();
        aNameGoesOnWith();
        theNameOfTheHome();
        wordsAndNumbers();
        signsNeedNothingBetween();
        remarks();
        oneOrSeveralBetweenThem();
        targets();
        aliases();
        members();
        lists();
        theseWordsOrNames();
        oneOrSeveral();
        fromLeftToRight();
        roundedTowards0();
        aCostBelow0();
        CHECK.end();
    }
}
