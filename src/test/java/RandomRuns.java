import java.util.function.LongSupplier;

/** Runs of calls, drawn by a fixed rule, on a MailRouter and on the PlainRouter: all answers must be the same. */
public final class RandomRuns {
    private static final int RUNS = 1500;
    // An object is good for so many calls.
    private static final int CALLS = 512;
    private static final int NONE = MailRouter.NONE;
    private static final int NO_FILE = -1000003;
    private static final int WORDS_OF_OUT = 21;
    private static final int PLACES = 9;
    private static final int CALLS_OF_NODE = 8 + 2 * WORDS_OF_OUT + 3 * PLACES;
    private static final String[] NAMES = {
        "a", "b", "c", "d", "e", "f", "g", "n", "m", ".x", ".y", ".x.y", "a.x", "dead", "private", "gated"};
    private static final String[] WORDS = {
        "LOCAL", "DEDICATED", "DIRECT", "DEMAND", "HOURLY", "EVENING", "DAILY", "WEEKLY", "HIGH", "LOW"};
    private static final String[] SCRAPS = {
        ";", "\n", ",", "=", "@", "{", "}", "(", ")", "!", "+", "-", "*", "/", " ", "#", "?", "NOW", "1000001",
        "toolongname", "a", "7", "\u00e9", "1000000", "dead{", "private{"};

    private long seed;
    private MailRouter router;
    private int callsOfRouter;
    private PlainRouter plain;
    // What brings a new router to where this one is: the text of each file, and the name of the home, if any.
    private String[] texts;
    private String home;
    // A new router does not know of faults until the next load() or value().
    private boolean faultKnown;
    private String story = "";
    private int differing = 0;
    private long asked = 0;

    private int draw(int below) {
        seed = seed * 6364136223846793005L + 1442695040888963407L;
        return (int) ((seed >>> 33) % below);
    }

    private String pick(String[] from) {
        return from[draw(from.length)];
    }

    /** With few names, links and members meet each other often. */
    private String name(int variety) {
        return NAMES[draw(Math.min(variety, NAMES.length))];
    }

    private String number() {
        int[] usual = {0, 1, 2, 3, 5, 10, 100, 50000, 60000, 70000, 100000, 200000, 1000, 999999, 1000000};
        return Integer.toString(draw(3) == 0 ? draw(12) : usual[draw(usual.length)]);
    }

    private String sum(int depth) {
        StringBuilder text = new StringBuilder();
        int factors = 1 + draw(depth == 0 ? 2 : 4);
        for (int i = 0; i < factors; i++) {
            if (i > 0) text.append("+-*/".charAt(draw(4)));
            int what = draw(6);
            text.append(what == 0 && depth > 0 ? "(" + sum(depth - 1) + ")" : what < 3 ? pick(WORDS) : number());
        }
        return text.toString();
    }

    private String cost() {
        int what = draw(5);
        return what == 0 ? "" : what == 1 ? "(" + sum(1) + ")" : "(" + draw(4) + ")";
    }

    private String names(int variety) {
        StringBuilder text = new StringBuilder(name(variety));
        for (int i = draw(3); i > 0; i--) text.append(",").append(name(variety));
        return text.toString();
    }

    private String statement(int variety) {
        switch (draw(12)) {
            case 0:
                return name(variety) + "=" + names(variety);
            case 1: case 2: case 3:
                return name(variety) + "=" + (draw(2) == 0 ? "@" : "") + "{" + names(variety) + "}" + cost();
            case 4:
                return "dead{" + name(variety) + (draw(2) == 0 ? "" : "!" + name(variety)) + "," + name(variety) + "}";
            case 5:
                return (draw(3) == 0 ? "private{" : "gated{") + names(variety) + "}";
            default:
                StringBuilder text = new StringBuilder(name(variety)).append(" ");
                for (int i = draw(3); i >= 0; i--) {
                    text.append(draw(3) == 0 ? "@" : "").append(name(variety)).append(cost()).append(i > 0 ? ", " : "");
                }
                return text.toString();
        }
    }

    private String text() {
        StringBuilder text = new StringBuilder();
        int variety = 3 + draw(14);
        int statements = draw(60) == 0 ? 39 + draw(4) : draw(12);
        for (int i = 0; i < statements; i++) {
            text.append(statements > 20 ? "a b" : statement(variety));
            text.append(draw(9) == 0 ? " # and so on\n" : draw(2) == 0 ? ";" : "\n");
        }
        if (draw(40) == 0) {
            for (int i = 0; i < 13; i++) text.append("z").append(i).append(" y").append(draw(13)).append(";");
        }
        for (int i = draw(4) == 0 ? 1 + draw(2) : 0; i > 0; i--) spoil(text);
        return text.length() > 600 ? text.substring(0, 600) : text.toString();
    }

    private void spoil(StringBuilder text) {
        int at = draw(text.length() + 1);
        if (draw(2) == 0) {
            text.insert(at, pick(SCRAPS));
        } else if (at < text.length()) {
            text.deleteCharAt(at);
        }
    }

    private String address() {
        StringBuilder text = new StringBuilder();
        for (int i = draw(5); i > 0; i--) {
            text.append(draw(5) == 0 ? "q" : "").append(name(NAMES.length)).append(draw(7) == 0 ? "" : "!");
        }
        return text.append(draw(4) == 0 ? "" : "me").toString();
    }

    private static long answer(LongSupplier call) {
        try {
            return call.getAsLong();
        } catch (IllegalArgumentException e) {
            return -1000001;
        } catch (IllegalStateException e) {
            return -1000002;
        } catch (IndexOutOfBoundsException e) {
            return e.getClass() == IndexOutOfBoundsException.class ? NO_FILE : -1000004;
        }
    }

    /** Returns what is due. */
    private long same(String call, LongSupplier mine, LongSupplier due) {
        asked++;
        callsOfRouter++;
        if (callsOfRouter > CALLS) throw new IllegalStateException("an object is asked too often");
        long got = answer(mine);
        long want = answer(due);
        if (got != want && differing++ < 10) {
            System.out.println("behind" + story + "\n  " + call + " answered " + got + ", due is " + want);
        }
        return want;
    }

    /** If the router is not good for so many calls more, a new one goes on, with an empty tape and out. */
    private void haveCallsLeft(int calls) {
        if (callsOfRouter + calls <= CALLS) return;
        router = new MailRouter();
        callsOfRouter = 0;
        for (int file = 0; file < texts.length; file++) {
            if (texts[file].isEmpty()) continue;
            Check.load(router, file, texts[file]);
            callsOfRouter += feedsOf(texts[file]) + 1;
        }
        if (!home.isEmpty()) {
            Check.setHome(router, home);
            callsOfRouter += feedsOf(home) + 1;
        }
        // The PlainRouter stays; with its tape empty, this makes its out empty, too.
        plain.rewrite();
        faultKnown = false;
    }

    private static int feedsOf(String text) {
        return (text.length() + 7) / 8;
    }

    private void feed(String text) {
        story += "\n  feed \"" + text.replace("\n", "\\n") + "\"";
        for (int from = 0; from < text.length(); from += 8) {
            int n = Math.min(8, text.length() - from);
            long packed = 0;
            for (int k = 0; k < n; k++) packed |= (long) (text.charAt(from + k) & 255) << 8 * k;
            long bytes = packed;
            same("feed", () -> router.feed(bytes, n), () -> plain.feed(bytes, n));
        }
    }

    private void sameOut() {
        for (int i = 0; i < WORDS_OF_OUT; i++) {
            int at = i - 1;
            same("word(" + at + ")", () -> router.word(at), () -> plain.word(at));
        }
    }

    private void change() {
        int what = draw(10);
        int file = draw(40) == 0 ? 4 - draw(2) * 5 : draw(4);
        haveCallsLeft(75 + 1 + 4);
        if (what < 6) {
            String text = text();
            feed(text);
            story += " load " + file;
            long due = same("load(" + file + ")", () -> router.load(file), () -> plain.load(file));
            if (due >= 0) texts[file] = text;
            if (due != NO_FILE) faultKnown = true;
        } else if (what == 6) {
            story += "\n  drop " + file;
            long due = same("drop(" + file + ")", () -> router.drop(file), () -> plain.drop(file));
            if (due >= 0) texts[file] = "";
        } else if (what == 7) {
            StringBuilder sum = new StringBuilder(sum(3));
            if (draw(3) == 0) spoil(sum);
            feed(sum.length() > 600 ? sum.substring(0, 600) : sum.toString());
            same("value()", () -> router.value(), plain::value);
            faultKnown = true;
        } else {
            String name = draw(9) == 0 ? pick(SCRAPS) : name(NAMES.length);
            feed(name);
            story += " setHome";
            long due = same("setHome()", () -> router.setHome(), plain::setHome);
            if (due >= NONE) home = name;
        }
        if (faultKnown) {
            same("fault(false)", () -> router.fault(false), () -> plain.fault(false));
            same("fault(true)", () -> router.fault(true), () -> plain.fault(true));
        }
        same("home()", () -> router.home(), plain::home);
        same("nodes()", () -> router.nodes(), plain::nodes);
    }

    private void askOfNode(int node) {
        String n = "(" + node + ")";
        haveCallsLeft(CALLS_OF_NODE);
        same("name" + n, () -> router.name(node), () -> plain.name(node));
        sameOut();
        same("kind" + n, () -> router.kind(node), () -> plain.kind(node));
        same("isPrivate" + n, () -> router.isPrivate(node) ? 1 : 0, () -> plain.isPrivate(node) ? 1 : 0);
        same("cost" + n, () -> router.cost(node), () -> plain.cost(node));
        same("costByRounds" + n, () -> router.costByRounds(node), () -> plain.cost(node));
        same("steps" + n, () -> router.steps(node), () -> plain.steps(node));
        same("state" + n, () -> router.state(node), () -> plain.state(node));
        same("print" + n, () -> router.print(node), () -> plain.print(node));
        sameOut();
        for (int i = 0; i < PLACES; i++) {
            int place = i - 1;
            String np = "(" + node + ", " + place + ")";
            same("nodeAt" + np, () -> router.nodeAt(node, place), () -> plain.nodeAt(node, place));
            same("costAt" + np, () -> router.costAt(node, place), () -> plain.costAt(node, place));
            same("stepAt" + np, () -> router.stepAt(node, place), () -> plain.stepAt(node, place));
        }
    }

    private void askOfPair(int from, int to) {
        haveCallsLeft(3);
        String p = "(" + from + ", " + to + ")";
        same("linkCost" + p, () -> router.linkCost(from, to), () -> plain.linkCost(from, to));
        same("memberCost" + p, () -> router.memberCost(from, to), () -> plain.memberCost(from, to));
        same("isBack" + p, () -> router.isBack(from, to) ? 1 : 0, () -> plain.isBack(from, to) ? 1 : 0);
    }

    private void askAll() {
        int nodes = plain.nodes();
        for (int node = -1; node <= nodes; node++) {
            askOfNode(node);
            for (int other = -1; other <= nodes; other++) askOfPair(node, other);
        }
        for (int i = 0; i < 6; i++) {
            String address = address();
            haveCallsLeft(feedsOf(address) + 1 + WORDS_OF_OUT);
            feed(address);
            same("rewrite()", () -> router.rewrite(), plain::rewrite);
            sameOut();
        }
        haveCallsLeft(2);
        feed(name(NAMES.length));
        same("lookUp()", () -> router.lookUp(), plain::lookUp);
    }

    private void run(int number) {
        seed = number * 7919L + 1;
        router = new MailRouter();
        callsOfRouter = 0;
        plain = new PlainRouter();
        texts = new String[] {"", "", "", ""};
        home = "";
        faultKnown = true;
        story = " run " + number;
        for (int change = 0; change < 8; change++) {
            change();
            if (change > 2 && draw(3) == 0) askAll();
        }
        askAll();
    }

    public static void main(String[] args) {
        RandomRuns runs = new RandomRuns();
        int count = args.length > 0 ? Integer.parseInt(args[0]) : RUNS;
        for (int number = 0; number < count; number++) runs.run(number);
        System.out.println(runs.asked + " answers compared, " + runs.differing + " differ");
        if (runs.differing != 0) System.exit(1);
    }
}
