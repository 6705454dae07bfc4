import java.util.ArrayList;
import java.util.List;
import java.util.Set;
import java.util.TreeSet;

/**
 * The document once more, written as plainly and slowly as it goes and in another manner than MailRouter:
 * RandomRuns compares the two. Everything is worked out anew for each question from the statements.
 */
final class PlainRouter {
    private static final int NONE = -1;

    private static final class Trouble extends RuntimeException {
        final int code, place;

        Trouble(int code, int place) {
            this.code = code;
            this.place = place;
        }
    }

    private record Node(String name, int owner) { }

    private record Target(String name, boolean right, int cost) { }

    private record Item(String name, String other) { }

    /** type: 'L' links, 'A' aliases, 'M' members, 'd' dead, 'p' private, 'g' gated. */
    private record Statement(char type, String first, List<Target> targets, List<Item> items, boolean right, int cost) { }

    private record Step(int from, int kind, int to, int cost, char mark) { }

    private record Way(int cost, int steps) {
        boolean lessThan(Way other) {
            return other == null || cost < other.cost || cost == other.cost && steps < other.steps;
        }
    }

    private record Place(int node, int state, int kind, Way way) { }

    // ---- the language

    private static final class Parser {
        final String text;
        int at = 0;

        Parser(String text) {
            this.text = text;
        }

        char look() {
            while (at < text.length()) {
                char c = text.charAt(at);
                if (c == '#') {
                    while (at < text.length() && text.charAt(at) != '\n') at++;
                } else if (c == ' ' || c == '\t') {
                    at++;
                } else {
                    return c == '\n' ? ';' : c;
                }
            }
            return '\0';
        }

        boolean atEnd() {
            look();
            return at >= text.length();
        }

        boolean eat(char c) {
            if (atEnd() || look() != c) return false;
            at++;
            return true;
        }

        void need(char c) {
            if (!eat(c)) throw new Trouble(1, at);
        }

        boolean nameAhead() {
            return !atEnd() && (look() >= 'a' && look() <= 'z' || look() == '.');
        }

        String run(String allowed) {
            int begin = at;
            while (at < text.length() && allowed.indexOf(text.charAt(at)) >= 0) at++;
            return text.substring(begin, at);
        }

        String name() {
            if (!nameAhead()) throw new Trouble(1, at);
            int begin = at;
            String name = run("abcdefghijklmnopqrstuvwxyz.0123456789-");
            if (name.length() > 8) throw new Trouble(2, begin);
            return name;
        }

        long worked(long left, char sign, long right, int place) {
            if (sign == '/' && right == 0) throw new Trouble(4, place);
            long result = sign == '+' ? left + right : sign == '-' ? left - right : sign == '*' ? left * right : left / right;
            if (Math.abs(result) > 1000000) throw new Trouble(4, place);
            return result;
        }

        long sum() {
            long value = product();
            while (!atEnd() && (look() == '+' || look() == '-')) {
                char sign = look();
                int place = at++;
                value = worked(value, sign, product(), place);
            }
            return value;
        }

        long product() {
            long value = factor();
            while (!atEnd() && (look() == '*' || look() == '/')) {
                char sign = look();
                int place = at++;
                value = worked(value, sign, factor(), place);
            }
            return value;
        }

        long factor() {
            if (eat('(')) {
                long value = sum();
                need(')');
                return value;
            }
            if (atEnd()) throw new Trouble(1, at);
            int begin = at;
            char c = look();
            if (c >= '0' && c <= '9') {
                String digits = run("0123456789").replaceFirst("^0+(?=.)", "");
                if (digits.length() > 7 || Integer.parseInt(digits) > 1000000) throw new Trouble(4, begin);
                return Integer.parseInt(digits);
            }
            if (c >= 'A' && c <= 'Z') {
                switch (run("ABCDEFGHIJKLMNOPQRSTUVWXYZ")) {
                    case "LOCAL": return 25;
                    case "DEDICATED": return 95;
                    case "DIRECT": return 200;
                    case "DEMAND": return 300;
                    case "HOURLY": return 500;
                    case "EVENING": return 1800;
                    case "DAILY": return 5000;
                    case "WEEKLY": return 30000;
                    case "HIGH": return -5;
                    case "LOW": return 5;
                    default: throw new Trouble(3, begin);
                }
            }
            throw new Trouble(1, begin);
        }

        int cost() {
            if (!eat('(')) return 4000;
            long value = sum();
            need(')');
            return (int) Math.max(0, value);
        }

        List<Statement> statements() {
            List<Statement> all = new ArrayList<>();
            while (eat(';')) { }
            while (!atEnd()) {
                if (all.size() == 40) throw new Trouble(5, at);
                all.add(statement());
                if (!atEnd() && look() != ';') throw new Trouble(1, at);
                while (eat(';')) { }
            }
            return all;
        }

        Statement statement() {
            String first = name();
            List<Target> targets = new ArrayList<>();
            List<Item> items = new ArrayList<>();
            if (List.of("dead", "private", "gated").contains(first) && eat('{')) {
                do {
                    String name = name();
                    String other = first.equals("dead") && eat('!') ? name() : null;
                    items.add(new Item(name, other));
                } while (eat(','));
                need('}');
                return new Statement(first.charAt(0), null, targets, items, false, 0);
            }
            if (!eat('=')) {
                do {
                    boolean right = eat('@');
                    String name = name();
                    targets.add(new Target(name, right, cost()));
                } while (eat(','));
                return new Statement('L', first, targets, items, false, 0);
            }
            if (nameAhead()) {
                do {
                    items.add(new Item(name(), null));
                } while (eat(','));
                return new Statement('A', first, targets, items, false, 0);
            }
            boolean right = eat('@');
            need('{');
            do {
                items.add(new Item(name(), null));
            } while (eat(','));
            need('}');
            return new Statement('M', first, targets, items, right, cost());
        }
    }

    // ---- what it means: all facts of all files, in nodes

    private static final class World {
        final List<Node> nodes = new ArrayList<>();
        final List<int[]> links = new ArrayList<>();
        final List<int[]> members = new ArrayList<>();
        final Set<List<Integer>> aliases = new java.util.HashSet<>();
        final Set<List<Integer>> deadLinks = new java.util.HashSet<>();
        final Set<Integer> dead = new TreeSet<>(), gated = new TreeSet<>(), nets = new TreeSet<>(), leftNets = new TreeSet<>();
        private Set<String> own = new TreeSet<>();

        World(List<List<Statement>> files) {
            for (int file = 0; file < files.size(); file++) {
                own = new TreeSet<>();
                for (Statement statement : files.get(file)) tell(statement, file);
            }
        }

        int node(String name, int file) {
            Node wanted = new Node(name, own.contains(name) ? file : NONE);
            if (!nodes.contains(wanted)) nodes.add(wanted);
            return nodes.indexOf(wanted);
        }

        void tell(Statement s, int file) {
            if (s.type == 'p') for (Item item : s.items) own.add(item.name);
            int first = s.first == null ? NONE : node(s.first, file);
            for (Target t : s.targets) links.add(new int[] {first, node(t.name, file), t.cost, t.right ? 1 : 0});
            if (s.type == 'M') {
                nets.add(first);
                if (!s.right) leftNets.add(first);
            }
            for (Item item : s.items) {
                int one = node(item.name, file);
                if (s.type == 'A') {
                    aliases.add(List.of(first, one));
                    aliases.add(List.of(one, first));
                }
                if (s.type == 'M') members.add(new int[] {one, first, s.cost});
                if (s.type == 'g') gated.add(one);
                if (s.type == 'd' && item.other == null) dead.add(one);
                if (s.type == 'd' && item.other != null) deadLinks.add(List.of(one, node(item.other, file)));
            }
        }

        /** {cost, 1 for RIGHT} of the link that counts, null if there is none. */
        int[] link(int from, int to) {
            int[] best = null;
            for (int[] l : links) {
                if (l[0] == from && l[1] == to && from != to
                        && (best == null || l[2] < best[0] || l[2] == best[0] && l[3] < best[1])) {
                    best = new int[] {l[2], l[3]};
                }
            }
            return best;
        }

        int member(int member, int net) {
            int best = NONE;
            for (int[] m : members) {
                if (m[0] == member && m[1] == net && member != net) best = best == NONE ? m[2] : Math.min(best, m[2]);
            }
            return best;
        }

        boolean domain(int node) {
            return nodes.get(node).name.startsWith(".");
        }

        int kind(int node) {
            return domain(node) ? 2 : nets.contains(node) ? 1 : 0;
        }

        int open(String name) {
            return nodes.indexOf(new Node(name, NONE));
        }

        List<Step> steps(Set<List<Integer>> backs) {
            List<Step> all = new ArrayList<>();
            for (int u = 0; u < nodes.size(); u++) {
                for (int v = 0; v < nodes.size(); v++) {
                    if (u == v) continue;
                    if (aliases.contains(List.of(u, v))) all.add(new Step(u, 1, v, 0, ' '));
                    int[] l = link(u, v);
                    if (l != null) {
                        int more = (dead.contains(u) ? 100000 : 0) + (deadLinks.contains(List.of(u, v)) ? 100000 : 0);
                        all.add(new Step(u, 2, v, l[0] + more, l[1] == 1 ? 'R' : 'L'));
                    }
                    int m = member(u, v);
                    if (m != NONE) all.add(new Step(u, 3, v, m + (gated.contains(v) || domain(v) ? 70000 : 0), ' '));
                    if (member(v, u) != NONE) all.add(new Step(u, 4, v, 0, leftNets.contains(u) ? 'L' : 'R'));
                    if (backs.contains(List.of(u, v))) all.add(new Step(u, 5, v, link(v, u)[0] + 200000, 'L'));
                }
            }
            return all;
        }

        Set<Integer> reached(int home, Set<List<Integer>> backs) {
            Set<Integer> all = new TreeSet<>();
            if (home == NONE) return all;
            all.add(home);
            List<Step> steps = steps(backs);
            boolean more = true;
            while (more) {
                more = false;
                for (Step s : steps) more |= all.contains(s.from) && all.add(s.to);
            }
            return all;
        }

        Set<List<Integer>> backs(int home) {
            Set<List<Integer>> all = new java.util.HashSet<>();
            while (true) {
                Set<Integer> reached = reached(home, all);
                Set<List<Integer>> found = new java.util.HashSet<>();
                for (int u = 0; u < nodes.size(); u++) {
                    for (int r : reached) if (!reached.contains(u) && link(u, r) != null) found.add(List.of(r, u));
                }
                if (found.isEmpty()) return all;
                all.addAll(found);
            }
        }

        int costOn(Step s, int state) {
            return s.cost + ((state & 1) != 0 && s.mark == 'L' ? 50000 : 0)
                    + ((state & 2) != 0 && (s.kind == 2 || s.kind == 3 || s.kind == 5) ? 60000 : 0);
        }

        int stateBehind(Step s, int state) {
            boolean inside = (s.kind == 2 || s.kind == 4) && domain(s.from) && !domain(s.to);
            return state | (s.mark == 'R' ? 1 : 0) | (inside ? 2 : 0);
        }
    }

    /** The best ways of a world from a home. */
    private static final class Tour {
        final World world;
        final Set<List<Integer>> backs;
        final List<Step> steps;
        final Way[][] best;
        final int home;

        Tour(World world, int home) {
            this.world = world;
            this.home = home;
            backs = world.backs(home);
            steps = world.steps(backs);
            best = new Way[world.nodes.size()][4];
            if (home == NONE) return;
            best[home][0] = new Way(0, 0);
            boolean changed = true;
            while (changed) {
                changed = false;
                for (Step s : steps) {
                    for (int state = 0; state < 4; state++) {
                        Way so = best[s.from][state];
                        if (so == null) continue;
                        Way longer = new Way(so.cost + world.costOn(s, state), so.steps + 1);
                        int behind = world.stateBehind(s, state);
                        if (longer.lessThan(best[s.to][behind])) {
                            best[s.to][behind] = longer;
                            changed = true;
                        }
                    }
                }
            }
        }

        List<Place> route(int node) {
            int state = NONE;
            for (int t = 3; t >= 0; t--) {
                if (best[node][t] != null && (state == NONE || !best[node][state].lessThan(best[node][t]))) state = t;
            }
            List<Place> places = new ArrayList<>();
            while (state != NONE && !(node == home && state == 0)) {
                Way way = best[node][state];
                Step last = null;
                int lastState = NONE;
                for (Step s : steps) {
                    for (int t = 0; t < 4; t++) {
                        Way so = best[s.from][t];
                        if (so == null || s.to != node || world.stateBehind(s, t) != state) continue;
                        if (so.cost + world.costOn(s, t) != way.cost || so.steps + 1 != way.steps) continue;
                        boolean first = last == null || s.from < last.from
                                || s.from == last.from && (t < lastState || t == lastState && s.kind < last.kind);
                        if (first) {
                            last = s;
                            lastState = t;
                        }
                    }
                }
                places.add(0, new Place(node, state, last.kind, way));
                node = last.from;
                state = lastState;
            }
            if (state != NONE) places.add(0, new Place(node, 0, 0, best[node][0]));
            return places;
        }

        String nameOnWay(List<Place> route, int place) {
            Place p = route.get(place);
            String name = world.nodes.get(p.node).name;
            boolean suffixed = (p.kind == 2 || p.kind == 4 || p.kind == 5) && world.domain(route.get(place - 1).node);
            return suffixed ? name + nameOnWay(route, place - 1) : name;
        }

        String printed(int node) {
            List<Place> route = route(node);
            String text = route.isEmpty() ? "" : "%";
            for (int i = 1; i < route.size(); i++) {
                Place p = route.get(i);
                if (p.kind != 2 && p.kind != 4 && p.kind != 5 || world.kind(p.node) != 0) continue;
                char mark = ' ';
                for (Step s : steps) {
                    if (s.from == route.get(i - 1).node && s.to == p.node && s.kind == p.kind) mark = s.mark;
                }
                text = mark == 'L' ? text.replace("%", nameOnWay(route, i) + "!%")
                        : text.replace("%", "%@" + nameOnWay(route, i));
            }
            return text;
        }

        String rewritten(String address) {
            int end = address.lastIndexOf('!');
            while (end >= 0) {
                String part = address.substring(address.lastIndexOf('!', end - 1) + 1, end);
                String form = form(part);
                if (form != null) return form.replace("%", "\0").replace("\0", address.substring(end + 1));
                end = end == 0 ? NONE : address.lastIndexOf('!', end - 1);
            }
            return address;
        }

        String form(String part) {
            int node = world.open(part);
            if (node != NONE && !route(node).isEmpty()) return printed(node);
            for (int from = 1; from < part.length(); from++) {
                int domain = world.open(part.substring(from));
                if (domain != NONE && world.domain(domain) && !route(domain).isEmpty()) {
                    return printed(domain).replace("%", part + "!%");
                }
            }
            return null;
        }
    }

    // ---- the face

    private String tape = "";
    private String out = "";
    private String homeName = "";
    private int code = 0, place = 0;
    private final List<List<Statement>> files = new ArrayList<>(List.of(List.of(), List.of(), List.of(), List.of()));
    private World world = new World(files);
    private Tour tour = null;

    private String taken() {
        String text = tape;
        tape = "";
        return text;
    }

    private void needNode(int node) {
        if (node < 0 || node >= world.nodes.size()) throw new IndexOutOfBoundsException();
    }

    private void needFile(int file) {
        if (file < 0 || file > 3) throw new IndexOutOfBoundsException();
    }

    private Tour tour() {
        if (tour == null) tour = new Tour(world, home());
        return tour;
    }

    private Place at(int node, int place) {
        needNode(node);
        List<Place> route = tour().route(node);
        if (place < 0 || place >= route.size()) throw new IndexOutOfBoundsException();
        return route.get(place);
    }

    int feed(long bytes, int n) {
        if (n < 1 || n > 8) throw new IllegalArgumentException();
        if (tape.length() + n > 600) throw new IllegalStateException();
        for (int k = 0; k < n; k++) tape += (char) (bytes >> 8 * k & 255);
        return tape.length();
    }

    int load(int file) {
        String text = taken();
        needFile(file);
        try {
            List<Statement> statements = new Parser(text).statements();
            List<List<Statement>> changed = new ArrayList<>(files);
            changed.set(file, statements);
            World next = new World(changed);
            if (next.nodes.size() > 24) throw new Trouble(6, text.length());
            world = next;
            tour = null;
            files.set(file, statements);
            code = place = 0;
            return statements.size();
        } catch (Trouble t) {
            code = t.code;
            place = t.place;
            throw new IllegalStateException();
        }
    }

    int drop(int file) {
        needFile(file);
        int had = files.get(file).size();
        files.set(file, List.of());
        world = new World(files);
        tour = null;
        return had;
    }

    int value() {
        Parser parser = new Parser(taken());
        try {
            long value = parser.sum();
            if (!parser.atEnd()) throw new Trouble(1, parser.at);
            code = place = 0;
            return (int) value;
        } catch (Trouble t) {
            code = t.code;
            place = t.place;
            throw new IllegalStateException();
        }
    }

    int fault(boolean wherever) {
        return wherever ? place : code;
    }

    int setHome() {
        String name = taken();
        if (!name.matches("[a-z.][a-z.0-9-]{0,7}")) throw new IllegalArgumentException();
        homeName = name;
        tour = null;
        return home();
    }

    int home() {
        return world.open(homeName);
    }

    int lookUp() {
        return world.open(taken());
    }

    int nodes() {
        return world.nodes.size();
    }

    int name(int node) {
        needNode(node);
        out = world.nodes.get(node).name;
        return out.length();
    }

    int kind(int node) {
        needNode(node);
        return world.kind(node);
    }

    boolean isPrivate(int node) {
        needNode(node);
        return world.nodes.get(node).owner != NONE;
    }

    int linkCost(int from, int to) {
        needNode(from);
        needNode(to);
        int[] link = world.link(from, to);
        return link == null ? NONE : link[0];
    }

    int memberCost(int member, int net) {
        needNode(member);
        needNode(net);
        return world.member(member, net);
    }

    int cost(int node) {
        needNode(node);
        List<Place> route = tour().route(node);
        return route.isEmpty() ? NONE : route.get(route.size() - 1).way.cost;
    }

    int steps(int node) {
        needNode(node);
        return tour().route(node).size() - 1;
    }

    int state(int node) {
        needNode(node);
        List<Place> route = tour().route(node);
        return route.isEmpty() ? NONE : route.get(route.size() - 1).state;
    }

    int nodeAt(int node, int place) {
        return at(node, place).node;
    }

    int costAt(int node, int place) {
        return at(node, place).way.cost;
    }

    int stepAt(int node, int place) {
        return at(node, place).kind;
    }

    boolean isBack(int from, int to) {
        needNode(from);
        needNode(to);
        return tour().backs.contains(List.of(from, to));
    }

    int print(int node) {
        needNode(node);
        out = tour().printed(node);
        return out.length();
    }

    int rewrite() {
        out = tour().rewritten(taken());
        return out.length();
    }

    long word(int i) {
        long word = 0;
        for (int k = 7; k >= 0; k--) {
            long at = 8L * i + k;
            word = word << 8 | (at >= 0 && at < out.length() ? out.charAt((int) at) : 0);
        }
        return word;
    }
}
