import java.nio.charset.StandardCharsets;
import java.util.function.Consumer;
import java.util.function.Supplier;

/** What the tests share: texts onto the tape, texts from the out, and a count of wrong answers. */
final class Check {
    private int asked = 0;
    private int wrong = 0;

    /** A router with these texts in its files 0, 1 .. and with this home; no home if it is empty. */
    static MailRouter router(String home, String... texts) {
        MailRouter router = new MailRouter();
        for (int file = 0; file < texts.length; file++) {
            load(router, file, texts[file]);
        }
        if (!home.isEmpty()) {
            setHome(router, home);
        }
        return router;
    }

    /** The text comes behind the tape, a character a byte. */
    static void feed(MailRouter router, String text) {
        byte[] bytes = text.getBytes(StandardCharsets.ISO_8859_1);
        for (int from = 0; from < bytes.length; from += 8) {
            int n = Math.min(8, bytes.length - from);
            long packed = 0;
            for (int k = 0; k < n; k++) {
                packed |= (bytes[from + k] & 255L) << (8 * k);
            }
            router.feed(packed, n);
        }
    }

    static int load(MailRouter router, int file, String text) {
        feed(router, text);
        return router.load(file);
    }

    static int setHome(MailRouter router, String name) {
        feed(router, name);
        return router.setHome();
    }

    static int lookUp(MailRouter router, String name) {
        feed(router, name);
        return router.lookUp();
    }

    static int value(MailRouter router, String text) {
        feed(router, text);
        return router.value();
    }

    /** The out, up to eight zeros in a row, with the zeros behind its end cut off. */
    static String out(MailRouter router) {
        StringBuilder text = new StringBuilder();
        long word = -1;
        // An object answers 512 calls, so no word is asked for behind the end.
        for (int i = 0; i < 200 && word != 0; i++) {
            word = router.word(i);
            for (int k = 0; k < 8; k++) {
                text.append((char) (word >>> (8 * k) & 255));
            }
        }
        int end = text.length();
        while (end > 0 && text.charAt(end - 1) == 0) {
            end--;
        }
        return text.substring(0, end);
    }

    /** The out of so many bytes, with what stands behind its end, if anything does. */
    static String out(MailRouter router, int length) {
        StringBuilder text = new StringBuilder();
        for (int i = 0; i <= length / 8; i++) {
            long word = router.word(i);
            for (int k = 0; k < 8; k++) {
                text.append((char) (word >>> (8 * k) & 255));
            }
        }
        boolean ends = text.substring(length).chars().allMatch(c -> c == 0);
        return text.substring(0, length) + (ends ? "" : " and behind its end " + text.substring(length));
    }

    void due(String what, long got, long want) {
        asked++;
        if (got != want) {
            wrong++;
            System.out.println(what + " answered " + got + ", due is " + want);
        }
    }

    void due(String what, boolean got, boolean want) {
        due(what, got ? 1 : 0, want ? 1 : 0);
    }

    void due(String what, String got, String want) {
        asked++;
        if (!got.equals(want)) {
            wrong++;
            System.out.println(what + " answered \"" + got + "\", due is \"" + want + "\"");
        }
    }

    /** The call throws an exception of just this class; null for none. */
    void dueThrow(String what, Class<? extends RuntimeException> kind, Runnable call) {
        Class<?> thrown = null;
        try {
            call.run();
        } catch (RuntimeException e) {
            thrown = e.getClass();
        }
        due(what + " threw", String.valueOf(thrown), String.valueOf(kind));
    }

    /**
     * The call throws an exception of just this class, and changes nothing: a router that is made in the same way
     * and not called answers all questions alike. A call that takes the tape over uses it up.
     */
    void dueRefused(String what, Supplier<MailRouter> make, Consumer<MailRouter> call,
            Class<? extends RuntimeException> kind, boolean takesTape) {
        MailRouter called = make.get();
        MailRouter other = make.get();
        dueThrow(what, kind, () -> call.accept(called));
        if (takesTape) {
            other.lookUp();
        }
        due("all answers behind " + what, everything(called), everything(other));
    }

    /** All that a router with few nodes tells, the tape and the files last, since they are used up by it. */
    static String everything(MailRouter x) {
        StringBuilder all = new StringBuilder("out ").append(out(x));
        all.append(" home ").append(x.home()).append(" fault ").append(x.fault(false)).append(" ").append(x.fault(true));
        for (int node = 0; node < x.nodes(); node++) {
            x.name(node);
            all.append("\n").append(out(x)).append(" ").append(x.kind(node)).append(x.isPrivate(node));
            all.append(" ").append(x.cost(node)).append(" ").append(x.costByRounds(node)).append(" ").append(x.state(node));
            for (int place = 0; place <= x.steps(node); place++) {
                all.append(" ").append(x.nodeAt(node, place)).append("/").append(x.costAt(node, place));
                all.append("/").append(x.stepAt(node, place));
            }
            x.print(node);
            all.append(" ").append(out(x));
            for (int to = 0; to < x.nodes(); to++) {
                all.append(" ").append(x.linkCost(node, to)).append("/").append(x.memberCost(node, to));
                all.append("/").append(x.isBack(node, to));
            }
        }
        for (int file = 0; file < 4; file++) {
            all.append("\nfile ").append(x.drop(file)).append(" ").append(x.nodes());
        }
        x.rewrite();
        return all.append("\ntape ").append(out(x)).toString();
    }

    /** The text is loaded into file 0 of a new router: so many statements. */
    void dueStatements(String text, int count) {
        MailRouter router = new MailRouter();
        feed(router, text);
        int got = MailRouter.NONE;
        try {
            got = router.load(0);
        } catch (IllegalStateException e) {
            got = -10 * router.fault(false) - 1000 * router.fault(true);
        }
        due("load of \"" + text + "\"", got, count);
    }

    /** The text does not go into file 0 of a new router, for this fault at this place. */
    void dueFault(String text, int code, int place) {
        MailRouter router = new MailRouter();
        feed(router, text);
        dueThrow("load of \"" + text + "\"", IllegalStateException.class, () -> router.load(0));
        due("fault of \"" + text + "\"", router.fault(false), code);
        due("place of the fault of \"" + text + "\"", router.fault(true), place);
        due("nodes behind \"" + text + "\"", router.nodes(), 0);
    }

    void dueValue(String text, int want) {
        MailRouter router = new MailRouter();
        feed(router, text);
        dueThrow("value of \"" + text + "\"", null, () -> due("value of \"" + text + "\"", router.value(), want));
        due("fault of \"" + text + "\"", router.fault(false), 0);
    }

    void dueValueFault(String text, int code, int place) {
        MailRouter router = new MailRouter();
        feed(router, text);
        dueThrow("value of \"" + text + "\"", IllegalStateException.class, () -> router.value());
        due("fault of \"" + text + "\"", router.fault(false), code);
        due("place of the fault of \"" + text + "\"", router.fault(true), place);
    }

    void duePrint(MailRouter router, String name, String want) {
        int length = router.print(lookUp(router, name));
        due("print of " + name, out(router, length), want);
        due("length of the print of " + name, length, want.length());
    }

    void dueRewrite(MailRouter router, String address, String want) {
        feed(router, address);
        int length = router.rewrite();
        due("rewrite of " + address, out(router, length), want);
        due("length of the rewrite of " + address, length, want.length());
    }

    void dueCost(MailRouter router, String name, int want) {
        int node = lookUp(router, name);
        due("cost of " + name, router.cost(node), want);
        due("costByRounds of " + name, router.costByRounds(node), want);
    }

    /** The route of a node, as the names of its nodes with the kind of the step to each, e.g. "0a 2b". */
    void dueRoute(MailRouter router, String name, String want) {
        due("route of " + name, route(router, lookUp(router, name)), want);
    }

    static String route(MailRouter router, int node) {
        StringBuilder text = new StringBuilder();
        for (int place = 0; place <= router.steps(node); place++) {
            router.name(router.nodeAt(node, place));
            text.append(place == 0 ? "" : " ").append(router.stepAt(node, place)).append(out(router));
        }
        return text.toString();
    }

    void end() {
        System.out.println(asked + " answers looked at, " + wrong + " wrong");
        if (wrong != 0) {
            System.exit(1);
        }
    }
}
