/** A router of mail over maps in a small language; ../shared/DOC.md says what each call promises. */
public final class MailRouter {
    public static final int NONE = -1;
    public static final int HOST = 0, NET = 1, DOMAIN = 2;
    public static final int BEGIN = 0, ALIAS = 1, LINK = 2, INTO = 3, OUT = 4, BACK = 5;

    private static final int FILES = 4;
    private static final int TAPE_BYTES = 600;
    // A printed route holds each node's name at most once, so it stays far below what is left beside an address.
    private static final int OUT_BYTES = 2 * TAPE_BYTES;
    private static final int NAME_BYTES = 8;
    private static final int NODES = 24;
    private static final int STATEMENTS = 40;

    private static final int STATES = 4;
    private static final int RIGHT_WAY = 1;
    private static final int INSIDE_WAY = 2;
    // A key stands for a node in a state: node * STATES + state, so keys are ordered by node, then by state.
    private static final int KEYS = NODES * STATES;

    private static final int UNMARKED = 0;
    private static final int LEFT = 1;
    private static final int RIGHT = 2;

    private static final int LIMIT = 1000000;
    private static final int BEYOND_LIMIT = LIMIT + 1;
    private static final int USUAL_COST = 4000;
    private static final int DEAD_MORE = 100000;
    private static final int GATE_MORE = 70000;
    private static final int BACK_MORE = 200000;
    private static final int LEFT_AGAIN_MORE = 50000;
    private static final int INSIDE_MORE = 60000;

    // The sorts of tokens; a sign is its own sort.
    private static final int END = 0;
    private static final int BREAK = ';';
    private static final int NAME = 'a';
    private static final int WORD = 'A';
    private static final int NUMBER = '0';
    private static final int STRAY = '?';

    private static final int MISPLACED = 1;
    private static final int LONG_NAME = 2;
    private static final int NO_WORD = 3;
    private static final int TOO_MUCH = 4;
    private static final int TOO_MANY_STATEMENTS = 5;
    private static final int TOO_MANY_NODES = 6;

    private static final int NO_LIST = 0;
    private static final int DEAD_LIST = 1;
    private static final int PRIVATE_LIST = 2;
    private static final int GATED_LIST = 3;

    private static final Rate[] RATES = Rate.values();

    private final Text tape;
    private final Text out;
    private final Text[] files;
    private final int[] statementCounts;
    private final Fault lastFault;
    private final Tokens tokens;
    private final Sum sum;
    private final Atlas atlas;
    private final Reader reader;
    private final Steps stepRules;
    private final Ways ways;
    private final Printer printer;

    public MailRouter() {
        tape = new Text(TAPE_BYTES);
        out = new Text(OUT_BYTES);
        files = new Text[FILES];
        for (int file = 0; file < FILES; file++) {
            files[file] = new Text(TAPE_BYTES);
        }
        statementCounts = new int[FILES];
        lastFault = new Fault();
        tokens = new Tokens();
        sum = new Sum(tokens);
        atlas = new Atlas();
        reader = new Reader(tokens, sum, atlas, lastFault);
        stepRules = new Steps(atlas);
        ways = new Ways(atlas, stepRules);
        printer = new Printer(atlas, stepRules, ways, out);
    }

    // ---- the tape and the files

    public int feed(long bytes, int n) throws IllegalArgumentException, IllegalStateException {
        if (n < 1 || n > 8) {
            throw new IllegalArgumentException("n is not 1 to 8");
        }
        if (tape.length() + n > TAPE_BYTES) {
            throw new IllegalStateException("the tape is full");
        }
        for (int k = 0; k < n; k++) {
            tape.append((int) (bytes >>> (8 * k)));
        }
        return tape.length();
    }

    public int load(int file) throws IndexOutOfBoundsException, IllegalStateException {
        if (!isFile(file)) {
            tape.clear();
            throw new IndexOutOfBoundsException("there is no such file");
        }
        lastFault.clear();
        boolean sound = drawMap(file);
        if (sound) {
            files[file].become(tape);
        } else {
            drawMap(NONE);
        }
        tape.clear();
        if (!sound) {
            throw new IllegalStateException("the text has a fault");
        }
        return statementCounts[file];
    }

    public int drop(int file) throws IndexOutOfBoundsException {
        if (!isFile(file)) {
            throw new IndexOutOfBoundsException("there is no such file");
        }
        int had = statementCounts[file];
        files[file].clear();
        drawMap(NONE);
        return had;
    }

    public int value() throws IllegalStateException {
        lastFault.clear();
        tokens.scan(tape);
        tape.clear();
        if (!sum.workOut(0)) {
            lastFault.tell(sum.faultCode(), tokens.beginAt(sum.faultToken()));
        } else if (tokens.sortAt(sum.next()) != END) {
            lastFault.tell(MISPLACED, tokens.beginAt(sum.next()));
        }
        if (lastFault.code() != 0) {
            throw new IllegalStateException("the sum has a fault");
        }
        return sum.result();
    }

    public int fault(boolean place) {
        return place ? lastFault.where() : lastFault.code();
    }

    public int setHome() throws IllegalArgumentException {
        long wanted = tape.asName();
        tape.clear();
        if (wanted == 0) {
            throw new IllegalArgumentException("the tape is not a name");
        }
        ways.beginAt(wanted);
        return ways.homeNode();
    }

    public int home() {
        return ways.homeNode();
    }

    public int lookUp() {
        long wanted = tape.asName();
        tape.clear();
        return atlas.find(wanted, NONE);
    }

    // ---- nodes

    public int nodes() {
        return atlas.size();
    }

    public int name(int node) throws IndexOutOfBoundsException {
        needNode(node);
        out.clear();
        out.appendName(atlas.nameOf(node));
        return out.length();
    }

    public int kind(int node) throws IndexOutOfBoundsException {
        needNode(node);
        return atlas.kindOf(node);
    }

    public boolean isPrivate(int node) throws IndexOutOfBoundsException {
        needNode(node);
        return atlas.isOwned(node);
    }

    public int linkCost(int from, int to) throws IndexOutOfBoundsException {
        needNode(from);
        needNode(to);
        return atlas.priceOfLink(from, to);
    }

    public int memberCost(int member, int net) throws IndexOutOfBoundsException {
        needNode(member);
        needNode(net);
        return atlas.priceOfMember(member, net);
    }

    // ---- routes

    public int cost(int node) throws IndexOutOfBoundsException {
        needNode(node);
        ways.find();
        return ways.costOfKey(ways.routeKey(node));
    }

    public int costByRounds(int node) throws IndexOutOfBoundsException {
        needNode(node);
        ways.find();
        ways.findByRounds();
        return ways.leastByRounds(node);
    }

    public int steps(int node) throws IndexOutOfBoundsException {
        needNode(node);
        ways.find();
        return ways.lengthOfKey(ways.routeKey(node));
    }

    public int state(int node) throws IndexOutOfBoundsException {
        needNode(node);
        ways.find();
        int key = ways.routeKey(node);
        return key == NONE ? NONE : key % STATES;
    }

    public int nodeAt(int node, int place) throws IndexOutOfBoundsException {
        needPlace(node, place);
        return ways.keyOn(place) / STATES;
    }

    public int costAt(int node, int place) throws IndexOutOfBoundsException {
        needPlace(node, place);
        return ways.costOfKey(ways.keyOn(place));
    }

    public int stepAt(int node, int place) throws IndexOutOfBoundsException {
        needPlace(node, place);
        return ways.kindOfKey(ways.keyOn(place));
    }

    public boolean isBack(int from, int to) throws IndexOutOfBoundsException {
        needNode(from);
        needNode(to);
        ways.find();
        return stepRules.hasBack(from, to);
    }

    // ---- the out

    public int print(int node) throws IndexOutOfBoundsException {
        needNode(node);
        ways.find();
        printer.writeRouteOf(node);
        return out.length();
    }

    public int rewrite() {
        ways.find();
        printer.writeAddress(tape);
        tape.clear();
        return out.length();
    }

    public long word(int i) {
        if (i < 0 || i >= OUT_BYTES) {
            return 0;
        }
        long word = 0;
        for (int k = 0; k < 8; k++) {
            int b = out.byteAt(8 * i + k);
            if (b != NONE) {
                word |= (long) b << (8 * k);
            }
        }
        return word;
    }

    // ---- what the calls share

    private static boolean isFile(int file) {
        return file >= 0 && file < FILES;
    }

    private void needNode(int node) {
        if (!atlas.has(node)) {
            throw new IndexOutOfBoundsException("there is no such node");
        }
    }

    /** Lays the route of a node out, if it has such a place. */
    private void needPlace(int node, int place) {
        needNode(node);
        ways.find();
        if (place < 0 || place > ways.layOut(node)) {
            throw new IndexOutOfBoundsException("there is no such place");
        }
    }

    /** Draws the map of all files anew, the tape in the stead of one of them; false with a fault told. */
    private boolean drawMap(int replaced) {
        ways.forget();
        atlas.clear();
        for (int file = 0; file < FILES; file++) {
            if (!reader.read(file == replaced ? tape : files[file], file)) {
                return false;
            }
            statementCounts[file] = reader.statements();
        }
        return !atlas.isCrowded() || lastFault.tell(TOO_MANY_NODES, tape.length());
    }

    // A set of nodes is an int with a bit for each of them.

    private static int setOf(int node) {
        return node < 0 || node >= NODES ? 0 : 1 << node;
    }

    private static boolean holds(int set, int node) {
        return node >= 0 && node < NODES && (set >> node & 1) != 0;
    }

    private static boolean isNameStart(int b) {
        return b >= 'a' && b <= 'z' || b == '.';
    }

    private static boolean isDigit(int b) {
        return b >= '0' && b <= '9';
    }

    private static boolean isNamePart(int b) {
        return isNameStart(b) || isDigit(b) || b == '-';
    }

    private static boolean isWordPart(int b) {
        return b >= 'A' && b <= 'Z';
    }

    /** A byte of a name that is packed into a long, the first byte lowest; 0 behind its end. */
    private static int nameByte(long name, int i) {
        return i < 0 || i >= NAME_BYTES ? 0 : (int) (name >>> (8 * i)) & 255;
    }

    /** The words that stand for costs. */
    private enum Rate {
        LOCAL("LOCAL", 25), DEDICATED("DEDICATED", 95), DIRECT("DIRECT", 200), DEMAND("DEMAND", 300),
        HOURLY("HOURLY", 500), EVENING("EVENING", 1800), DAILY("DAILY", 5000), WEEKLY("WEEKLY", 30000),
        HIGH("HIGH", -5), LOW("LOW", 5);

        final String letters;
        final int worth;

        Rate(String letters, int worth) {
            this.letters = letters;
            this.worth = worth;
        }
    }

    /** A code and a place. */
    private static final class Fault {
        private int code;
        private int place;

        void clear() {
            code = 0;
            place = 0;
        }

        /** Always false, so that a reader can give up with it. */
        boolean tell(int newCode, int newPlace) {
            code = newCode;
            place = newPlace;
            return false;
        }

        int code() {
            return code;
        }

        int where() {
            return place;
        }
    }

    /** A row of bytes up to a limit. */
    private static final class Text {
        private final byte[] bytes;
        private int length;

        Text(int limit) {
            bytes = new byte[Math.max(limit, 0)];
        }

        void clear() {
            length = 0;
        }

        int length() {
            return length;
        }

        /** A byte as 0 to 255; NONE where there is none. */
        int byteAt(int i) {
            return i >= 0 && i < length && i < bytes.length ? bytes[i] & 255 : NONE;
        }

        void append(int b) {
            if (length >= 0 && length < bytes.length) {
                bytes[length] = (byte) b;
                length++;
            }
        }

        void appendName(long name) {
            for (int i = 0; i < NAME_BYTES && nameByte(name, i) != 0; i++) {
                append(nameByte(name, i));
            }
        }

        void appendPart(Text other, int begin, int end) {
            for (int i = Math.max(begin, 0); i < end && i < other.length; i++) {
                append(other.byteAt(i));
            }
        }

        void become(Text other) {
            clear();
            appendPart(other, 0, other.length);
        }

        /** Its first eight bytes from begin up to end, the first one lowest. */
        long packed(int begin, int end) {
            long packed = 0;
            for (int i = 0; i < NAME_BYTES && begin + i < end; i++) {
                packed |= (byteAt(begin + i) & 255L) << (8 * i);
            }
            return packed;
        }

        boolean spells(int begin, int end, String letters) {
            if (end - begin != letters.length()) {
                return false;
            }
            for (int i = 0; i < letters.length(); i++) {
                if (byteAt(begin + i) != letters.charAt(i)) {
                    return false;
                }
            }
            return true;
        }

        /** The packed name that the text is; 0 if it is not just a name of at most eight bytes. */
        long asName() {
            if (length > NAME_BYTES || !isNameStart(byteAt(0))) {
                return 0;
            }
            for (int i = 1; i < length; i++) {
                if (!isNamePart(byteAt(i))) {
                    return 0;
                }
            }
            return packed(0, length);
        }
    }

    /** The tokens of a text, the last one its end. */
    private static final class Tokens {
        private final Text text = new Text(TAPE_BYTES);
        private final int[] sorts = new int[TAPE_BYTES + 1];
        private final int[] begins = new int[TAPE_BYTES + 1];
        private final int[] ends = new int[TAPE_BYTES + 1];
        // For a NAME its first eight bytes, packed; for a NUMBER or WORD what it counts.
        private final long[] meanings = new long[TAPE_BYTES + 1];
        private int count;

        void scan(Text source) {
            text.become(source);
            count = 0;
            int at = 0;
            for (int turn = 0; turn < TAPE_BYTES && at < text.length(); turn++) {
                int first = text.byteAt(at);
                if (first == ' ' || first == 9) {
                    at++;
                } else if (first == '#') {
                    at = endOfRemark(at);
                } else {
                    int sort = sortOf(first);
                    int end = endOfToken(sort, at);
                    add(sort, at, end, meaningOf(sort, at, end));
                    at = end;
                }
            }
            add(END, text.length(), text.length(), 0);
        }

        int sortAt(int i) {
            return i >= 0 && i < count && i < sorts.length ? sorts[i] : END;
        }

        int beginAt(int i) {
            return i >= 0 && i < count && i < begins.length ? begins[i] : text.length();
        }

        int lengthAt(int i) {
            return i >= 0 && i < count && i < begins.length && i < ends.length ? ends[i] - begins[i] : 0;
        }

        /** The first eight bytes of a NAME, packed. */
        long nameAt(int i) {
            return i >= 0 && i < count && i < meanings.length ? meanings[i] : 0;
        }

        /** What a NUMBER or WORD counts; BEYOND_LIMIT if it counts too much or is no known word. */
        int worthAt(int i) {
            return i >= 0 && i < count && i < meanings.length ? (int) meanings[i] : BEYOND_LIMIT;
        }

        boolean isAt(int i, String letters) {
            int begin = beginAt(i);
            return text.spells(begin, begin + lengthAt(i), letters);
        }

        private void add(int sort, int begin, int end, long meaning) {
            if (count >= 0 && count < sorts.length && count < begins.length
                    && count < ends.length && count < meanings.length) {
                sorts[count] = sort;
                begins[count] = begin;
                ends[count] = end;
                meanings[count] = meaning;
                count++;
            }
        }

        private long meaningOf(int sort, int begin, int end) {
            if (sort == NAME) {
                return text.packed(begin, end);
            }
            if (sort == NUMBER) {
                return numberOf(begin, end);
            }
            return sort == WORD ? worthOfWord(begin, end) : 0;
        }

        private int numberOf(int begin, int end) {
            int number = 0;
            for (int at = begin; at < end; at++) {
                number = Math.min(10 * number + text.byteAt(at) - '0', BEYOND_LIMIT);
            }
            return number;
        }

        private int worthOfWord(int begin, int end) {
            for (Rate rate : RATES) {
                if (text.spells(begin, end, rate.letters)) {
                    return rate.worth;
                }
            }
            return BEYOND_LIMIT;
        }

        private int endOfRemark(int begin) {
            int end = begin;
            while (end < text.length() && text.byteAt(end) != 10) {
                end++;
            }
            return end;
        }

        private int endOfToken(int sort, int begin) {
            int end = begin + 1;
            while (end < text.length() && goesOn(sort, text.byteAt(end))) {
                end++;
            }
            return end;
        }

        private static boolean goesOn(int sort, int b) {
            return sort == NAME && isNamePart(b) || sort == WORD && isWordPart(b) || sort == NUMBER && isDigit(b);
        }

        private static int sortOf(int b) {
            if (isNameStart(b)) {
                return NAME;
            }
            if (isWordPart(b)) {
                return WORD;
            }
            if (isDigit(b)) {
                return NUMBER;
            }
            if (b == 10) {
                return BREAK;
            }
            return isSign(b) ? b : STRAY;
        }

        private static boolean isSign(int b) {
            switch (b) {
                case '=': case '@': case '{': case '}': case '(': case ')': case ',':
                case '!': case '+': case '-': case '*': case '/': case ';':
                    return true;
                default:
                    return false;
            }
        }
    }

    /** Works sums out; open brackets are kept in rows, as a text may nest them hundreds of levels deep. */
    private static final class Sum {
        private final Tokens tokens;
        // What stands left of the open signs in the innermost bracket, and which tokens these signs are.
        private int total;
        private int totalSign;
        private int product;
        private int productSign;
        private int factor;
        // The same for the brackets around it.
        private final int[] totals = new int[TAPE_BYTES];
        private final int[] totalSigns = new int[TAPE_BYTES];
        private final int[] products = new int[TAPE_BYTES];
        private final int[] productSigns = new int[TAPE_BYTES];
        private int depth;
        private int at;
        private int faultCode;
        private int faultToken;

        Sum(Tokens tokens) {
            this.tokens = tokens;
        }

        int result() {
            return total;
        }

        /** The first token behind the sum. */
        int next() {
            return at;
        }

        int faultCode() {
            return faultCode;
        }

        int faultToken() {
            return faultToken;
        }

        /** Works out the sum that begins at a token; false if it has a fault. */
        boolean workOut(int first) {
            at = first;
            depth = 0;
            beginSum();
            boolean behindFactor = false;
            for (int turn = 0; turn <= TAPE_BYTES; turn++) {
                int sort = tokens.sortAt(at);
                if (!behindFactor && sort == '(') {
                    if (!open()) {
                        return false;
                    }
                } else if (!behindFactor) {
                    if (!readFactor(sort) || !endFactor()) {
                        return false;
                    }
                    behindFactor = true;
                } else if (sort == '*' || sort == '/') {
                    productSign = at;
                    behindFactor = false;
                } else {
                    if (!endProduct()) {
                        return false;
                    }
                    if (sort == '+' || sort == '-') {
                        totalSign = at;
                        behindFactor = false;
                    } else if (depth == 0) {
                        return true;
                    } else if (!close(sort) || !endFactor()) {
                        return false;
                    }
                }
                at++;
            }
            return fail(MISPLACED, at);
        }

        private void beginSum() {
            totalSign = NONE;
            productSign = NONE;
        }

        private boolean open() {
            if (depth < 0 || depth >= TAPE_BYTES) {
                return fail(MISPLACED, at);
            }
            totals[depth] = total;
            totalSigns[depth] = totalSign;
            products[depth] = product;
            productSigns[depth] = productSign;
            depth++;
            beginSum();
            return true;
        }

        private boolean close(int sort) {
            if (sort != ')' || depth < 1 || depth > TAPE_BYTES) {
                return fail(MISPLACED, at);
            }
            int inner = total;
            depth--;
            total = totals[depth];
            totalSign = totalSigns[depth];
            product = products[depth];
            productSign = productSigns[depth];
            factor = inner;
            return true;
        }

        private boolean readFactor(int sort) {
            if (sort != NUMBER && sort != WORD) {
                return fail(MISPLACED, at);
            }
            factor = tokens.worthAt(at);
            return factor != BEYOND_LIMIT || fail(sort == WORD ? NO_WORD : TOO_MUCH, at);
        }

        private boolean endFactor() {
            int sign = productSign;
            long result = sign == NONE ? factor : combine(product, tokens.sortAt(sign), factor);
            product = (int) result;
            productSign = NONE;
            return isWithinLimit(result) || fail(TOO_MUCH, sign);
        }

        private boolean endProduct() {
            int sign = totalSign;
            long result = sign == NONE ? product : combine(total, tokens.sortAt(sign), product);
            total = (int) result;
            totalSign = NONE;
            return isWithinLimit(result) || fail(TOO_MUCH, sign);
        }

        private boolean fail(int code, int token) {
            faultCode = code;
            faultToken = token;
            return false;
        }

        private static long combine(long left, int sign, long right) {
            if (sign == '+') {
                return left + right;
            }
            if (sign == '-') {
                return left - right;
            }
            if (sign == '*') {
                return left * right;
            }
            return right == 0 ? BEYOND_LIMIT : left / right;
        }

        private static boolean isWithinLimit(long result) {
            return result >= -LIMIT && result <= LIMIT;
        }
    }

    /** Reads the statements of a text into the atlas. */
    private static final class Reader {
        private final Tokens tokens;
        private final Sum sum;
        private final Atlas atlas;
        private final Fault fault;
        private int file;
        private int at;
        private int statements;
        // What takeName() and takePrice() read last.
        private int node;
        private int price;

        Reader(Tokens tokens, Sum sum, Atlas atlas, Fault fault) {
            this.tokens = tokens;
            this.sum = sum;
            this.atlas = atlas;
            this.fault = fault;
        }

        int statements() {
            return statements;
        }

        /** Reads the text of a file; false with a fault told. */
        boolean read(Text text, int newFile) {
            tokens.scan(text);
            file = newFile;
            at = 0;
            statements = 0;
            for (int turn = 0; turn <= TAPE_BYTES && tokens.sortAt(at) != END; turn++) {
                if (take(BREAK)) {
                    continue;
                }
                if (statements >= STATEMENTS) {
                    return fault.tell(TOO_MANY_STATEMENTS, tokens.beginAt(at));
                }
                int list = listAhead();
                boolean sound;
                if (list != NO_LIST) {
                    sound = readList(list);
                } else if (!takeName(false)) {
                    sound = false;
                } else if (!take('=')) {
                    sound = readLinks(node);
                } else {
                    sound = tokens.sortAt(at) == NAME ? readAliases(node) : readMembers(node);
                }
                if (!sound) {
                    return false;
                }
                statements++;
                if (tokens.sortAt(at) != BREAK && tokens.sortAt(at) != END) {
                    return misplaced();
                }
            }
            return true;
        }

        private int listAhead() {
            if (tokens.sortAt(at + 1) != '{') {
                return NO_LIST;
            }
            if (tokens.isAt(at, "dead")) {
                return DEAD_LIST;
            }
            if (tokens.isAt(at, "private")) {
                return PRIVATE_LIST;
            }
            return tokens.isAt(at, "gated") ? GATED_LIST : NO_LIST;
        }

        private boolean readLinks(int first) {
            for (int turn = 0; turn <= TAPE_BYTES; turn++) {
                boolean right = take('@');
                if (!takeName(false)) {
                    return false;
                }
                int target = node;
                if (!takePrice()) {
                    return false;
                }
                atlas.addLink(first, target, price, right);
                if (!take(',')) {
                    return true;
                }
            }
            return misplaced();
        }

        private boolean readAliases(int first) {
            for (int turn = 0; turn <= TAPE_BYTES; turn++) {
                if (!takeName(false)) {
                    return false;
                }
                atlas.addAlias(first, node);
                if (!take(',')) {
                    return true;
                }
            }
            return misplaced();
        }

        private boolean readMembers(int net) {
            boolean right = take('@');
            if (!take('{')) {
                return misplaced();
            }
            int members = 0;
            for (int turn = 0; turn <= TAPE_BYTES && (turn == 0 || take(',')); turn++) {
                if (!takeName(false)) {
                    return false;
                }
                members |= setOf(node);
            }
            if (!take('}')) {
                return misplaced();
            }
            if (!takePrice()) {
                return false;
            }
            atlas.addMembers(net, members, price, right);
            return true;
        }

        private boolean readList(int list) {
            at += 2;
            for (int turn = 0; turn <= TAPE_BYTES && (turn == 0 || take(',')); turn++) {
                if (!takeName(list == PRIVATE_LIST)) {
                    return false;
                }
                int first = node;
                if (list == GATED_LIST) {
                    atlas.gate(first);
                } else if (list == DEAD_LIST && !take('!')) {
                    atlas.kill(first);
                } else if (list == DEAD_LIST) {
                    if (!takeName(false)) {
                        return false;
                    }
                    atlas.killLink(first, node);
                }
            }
            return take('}') || misplaced();
        }

        private boolean take(int sort) {
            if (tokens.sortAt(at) != sort) {
                return false;
            }
            at++;
            return true;
        }

        private boolean takeName(boolean asPrivate) {
            if (tokens.sortAt(at) != NAME) {
                return misplaced();
            }
            if (tokens.lengthAt(at) > NAME_BYTES) {
                return fault.tell(LONG_NAME, tokens.beginAt(at));
            }
            node = atlas.nodeFor(tokens.nameAt(at), file, asPrivate);
            at++;
            return true;
        }

        private boolean takePrice() {
            price = USUAL_COST;
            if (!take('(')) {
                return true;
            }
            if (!sum.workOut(at)) {
                return fault.tell(sum.faultCode(), tokens.beginAt(sum.faultToken()));
            }
            at = sum.next();
            price = Math.max(sum.result(), 0);
            return take(')') || misplaced();
        }

        private boolean misplaced() {
            return fault.tell(MISPLACED, tokens.beginAt(at));
        }
    }

    /** The nodes and what the statements tell of them. */
    private static final class Atlas {
        private int size;
        private boolean crowded;
        private final long[] names = new long[NODES];
        private final int[] owners = new int[NODES];
        private int domains;
        private int nets;
        private int leftNets;
        private int gated;
        private int dead;
        // Sets of nodes, for each node that they belong to.
        private final int[] aliases = new int[NODES];
        private final int[] links = new int[NODES];
        private final int[] rightLinks = new int[NODES];
        private final int[] deadLinks = new int[NODES];
        private final int[] members = new int[NODES];
        private final int[][] linkPrices = new int[NODES][NODES];
        private final int[][] memberPrices = new int[NODES][NODES];

        void clear() {
            size = 0;
            crowded = false;
            domains = 0;
            nets = 0;
            leftNets = 0;
            gated = 0;
            dead = 0;
            for (int node = 0; node < NODES; node++) {
                aliases[node] = 0;
                links[node] = 0;
                rightLinks[node] = 0;
                deadLinks[node] = 0;
                members[node] = 0;
            }
        }

        int size() {
            return size;
        }

        /** Whether there were names for more nodes than there may be. */
        boolean isCrowded() {
            return crowded;
        }

        boolean has(int node) {
            return node >= 0 && node < size && node < NODES;
        }

        /** The node that a file alone has, or with NONE the one that is not private. */
        int find(long name, int owner) {
            for (int node = 0; node < size && node < NODES; node++) {
                if (names[node] == name && owners[node] == owner) {
                    return node;
                }
            }
            return NONE;
        }

        /** The node that a name in a file stands for, made if it is new; NONE if there is no room. */
        int nodeFor(long name, int file, boolean asPrivate) {
            int own = find(name, file);
            if (own != NONE) {
                return own;
            }
            int common = asPrivate ? NONE : find(name, NONE);
            if (common != NONE) {
                return common;
            }
            if (size < 0 || size >= NODES) {
                crowded = true;
                return NONE;
            }
            names[size] = name;
            owners[size] = asPrivate ? file : NONE;
            if (nameByte(name, 0) == '.') {
                domains |= setOf(size);
            }
            size++;
            return size - 1;
        }

        void addLink(int from, int to, int price, boolean right) {
            if (!has(from) || !has(to) || from == to) {
                return;
            }
            boolean known = holds(links[from], to);
            if (known && linkPrices[from][to] < price) {
                return;
            }
            if (!known || linkPrices[from][to] > price) {
                links[from] |= setOf(to);
                linkPrices[from][to] = price;
                rightLinks[from] |= setOf(to);
            }
            if (!right) {
                rightLinks[from] &= ~setOf(to);
            }
        }

        void addAlias(int one, int other) {
            if (has(one) && has(other) && one != other) {
                aliases[one] |= setOf(other);
                aliases[other] |= setOf(one);
            }
        }

        void addMembers(int net, int added, int price, boolean right) {
            if (!has(net)) {
                return;
            }
            nets |= setOf(net);
            if (!right) {
                leftNets |= setOf(net);
            }
            for (int member = 0; member < size && member < NODES; member++) {
                if (member != net && holds(added, member)) {
                    boolean known = holds(members[net], member);
                    memberPrices[net][member] = known ? Math.min(memberPrices[net][member], price) : price;
                    members[net] |= setOf(member);
                }
            }
        }

        void gate(int net) {
            gated |= setOf(net);
        }

        void kill(int node) {
            dead |= setOf(node);
        }

        void killLink(int from, int to) {
            if (has(from)) {
                deadLinks[from] |= setOf(to);
            }
        }

        long nameOf(int node) {
            return has(node) ? names[node] : 0;
        }

        boolean isOwned(int node) {
            return has(node) && owners[node] != NONE;
        }

        boolean isDomain(int node) {
            return holds(domains, node);
        }

        int kindOf(int node) {
            if (holds(domains, node)) {
                return DOMAIN;
            }
            return holds(nets, node) ? NET : HOST;
        }

        boolean isAlias(int one, int other) {
            return has(one) && holds(aliases[one], other);
        }

        int priceOfLink(int from, int to) {
            return has(from) && has(to) && holds(links[from], to) ? linkPrices[from][to] : NONE;
        }

        int priceOfMember(int member, int net) {
            return has(member) && has(net) && holds(members[net], member) ? memberPrices[net][member] : NONE;
        }

        boolean isRightLink(int from, int to) {
            return has(from) && holds(rightLinks[from], to);
        }

        boolean isRightNet(int net) {
            return holds(nets, net) && !holds(leftNets, net);
        }

        /** Whether it costs more to go into a net. */
        boolean isGate(int net) {
            return holds(gated, net) || holds(domains, net);
        }

        /** How many of a link and the node from which it goes are dead. */
        int deathsOn(int from, int to) {
            int deaths = holds(dead, from) ? 1 : 0;
            return has(from) && holds(deadLinks[from], to) ? deaths + 1 : deaths;
        }

        int linksOf(int node) {
            return has(node) ? links[node] : 0;
        }

        /** All nodes to which an alias, link, net or member leads from a node. */
        int nextTo(int node) {
            if (!has(node)) {
                return 0;
            }
            int next = aliases[node] | links[node] | members[node];
            for (int net = 0; net < size && net < NODES; net++) {
                if (holds(members[net], node)) {
                    next |= setOf(net);
                }
            }
            return next;
        }
    }

    /** The steps from node to node, among them those by links back. */
    private static final class Steps {
        private final Atlas atlas;
        private final int[] backs = new int[NODES];

        Steps(Atlas atlas) {
            this.atlas = atlas;
        }

        boolean hasBack(int from, int to) {
            return atlas.has(from) && holds(backs[from], to);
        }

        int targetsOf(int from) {
            return atlas.has(from) ? atlas.nextTo(from) | backs[from] : 0;
        }

        /** What a step costs on a way with a state; NONE if there is no such step. */
        int costOf(int from, int state, int kind, int to) {
            int price = plainCost(from, kind, to);
            if ((state & RIGHT_WAY) != 0 && markOf(from, kind, to) == LEFT) {
                price = plus(price, LEFT_AGAIN_MORE);
            }
            if ((state & INSIDE_WAY) != 0 && (kind == LINK || kind == BACK || kind == INTO)) {
                price = plus(price, INSIDE_MORE);
            }
            return price;
        }

        int stateBehind(int from, int state, int kind, int to) {
            int behind = state;
            if (markOf(from, kind, to) == RIGHT) {
                behind |= RIGHT_WAY;
            }
            if ((kind == LINK || kind == OUT) && atlas.isDomain(from) && !atlas.isDomain(to)) {
                behind |= INSIDE_WAY;
            }
            return behind;
        }

        int markOf(int from, int kind, int to) {
            if (kind == LINK) {
                return atlas.isRightLink(from, to) ? RIGHT : LEFT;
            }
            if (kind == OUT) {
                return atlas.isRightNet(from) ? RIGHT : LEFT;
            }
            return kind == BACK ? LEFT : UNMARKED;
        }

        private int plainCost(int from, int kind, int to) {
            switch (kind) {
                case ALIAS:
                    return atlas.isAlias(from, to) ? 0 : NONE;
                case LINK:
                    return plus(atlas.priceOfLink(from, to), DEAD_MORE * atlas.deathsOn(from, to));
                case INTO:
                    return plus(atlas.priceOfMember(from, to), atlas.isGate(to) ? GATE_MORE : 0);
                case OUT:
                    return atlas.priceOfMember(to, from) == NONE ? NONE : 0;
                case BACK:
                    return hasBack(from, to) ? plus(atlas.priceOfLink(to, from), BACK_MORE) : NONE;
                default:
                    return NONE;
            }
        }

        private static int plus(int price, int more) {
            return price == NONE ? NONE : price + more;
        }

        /** Finds the links back for a home, or without one that there are none. */
        void findLinksBack(int home) {
            for (int node = 0; node < NODES; node++) {
                backs[node] = 0;
            }
            int reached = setOf(home);
            for (int turn = 0; turn <= NODES; turn++) {
                reached = spread(reached);
                boolean turned = false;
                for (int node = 0; node < NODES; node++) {
                    if (!holds(reached, node)) {
                        turned |= turnLinks(node, reached);
                    }
                }
                if (!turned) {
                    return;
                }
            }
        }

        /** All nodes to which ways lead from those of a set. */
        private int spread(int reached) {
            int all = reached;
            for (int turn = 0; turn <= NODES; turn++) {
                int before = all;
                for (int node = 0; node < NODES; node++) {
                    if (holds(all, node)) {
                        all |= targetsOf(node);
                    }
                }
                if (all == before) {
                    return all;
                }
            }
            return all;
        }

        /** Gives links back to all links from a node into a set; whether there were any. */
        private boolean turnLinks(int node, int reached) {
            int targets = atlas.linksOf(node) & reached;
            for (int target = 0; target < NODES; target++) {
                if (holds(targets, target)) {
                    backs[target] |= setOf(node);
                }
            }
            return targets != 0;
        }
    }

    /** The best ways from the home; find() or findByRounds() comes ahead of the questions. */
    private static final class Ways {
        private final Atlas atlas;
        private final Steps steps;
        private long homeName;
        private boolean known;
        private boolean knownByRounds;
        // For each key: its best way's cost and number of steps, the key from which its last step comes, its kind.
        private final int[] costs = new int[KEYS];
        private final int[] lengths = new int[KEYS];
        private final int[] origins = new int[KEYS];
        private final int[] kinds = new int[KEYS];
        private final boolean[] settled = new boolean[KEYS];
        private final int[] roundCosts = new int[KEYS];
        // The keys along the route that was laid out last.
        private final int[] laidOut = new int[KEYS];

        Ways(Atlas atlas, Steps steps) {
            this.atlas = atlas;
            this.steps = steps;
        }

        void beginAt(long name) {
            homeName = name;
            forget();
        }

        /** To be called whenever the atlas changes. */
        void forget() {
            known = false;
            knownByRounds = false;
        }

        int homeNode() {
            return atlas.find(homeName, NONE);
        }

        int costOfKey(int key) {
            return key >= 0 && key < KEYS ? costs[key] : NONE;
        }

        int lengthOfKey(int key) {
            return key >= 0 && key < KEYS ? lengths[key] : NONE;
        }

        int kindOfKey(int key) {
            return key >= 0 && key < KEYS ? kinds[key] : NONE;
        }

        int keyOn(int place) {
            return place >= 0 && place < KEYS ? laidOut[place] : NONE;
        }

        /** The key with which the route of a node ends; NONE if it has none. */
        int routeKey(int node) {
            if (node < 0 || node >= NODES) {
                return NONE;
            }
            int best = NONE;
            for (int key = node * STATES; key < (node + 1) * STATES; key++) {
                if (costs[key] != NONE && (best == NONE || isShorter(key, best))) {
                    best = key;
                }
            }
            return best;
        }

        /** Lays the route of a node out for keyOn(); returns how many steps it has, NONE if there is none. */
        int layOut(int node) {
            int key = routeKey(node);
            int length = lengthOfKey(key);
            for (int place = length; place >= 0 && place < KEYS && key >= 0 && key < KEYS; place--) {
                laidOut[place] = key;
                key = origins[key];
            }
            return length;
        }

        int leastByRounds(int node) {
            if (node < 0 || node >= NODES) {
                return NONE;
            }
            int least = NONE;
            for (int key = node * STATES; key < (node + 1) * STATES; key++) {
                if (roundCosts[key] != NONE && (least == NONE || roundCosts[key] < least)) {
                    least = roundCosts[key];
                }
            }
            return least;
        }

        /** Finds the links back and the best ways, always going on from the nearest key, unless they are known. */
        void find() {
            if (known) {
                return;
            }
            known = true;
            for (int key = 0; key < KEYS; key++) {
                costs[key] = NONE;
                lengths[key] = NONE;
                settled[key] = false;
            }
            int home = homeNode();
            steps.findLinksBack(home);
            if (home < 0 || home >= NODES) {
                return;
            }
            int start = home * STATES;
            costs[start] = 0;
            lengths[start] = 0;
            origins[start] = NONE;
            kinds[start] = BEGIN;
            for (int turn = 0; turn < KEYS; turn++) {
                int key = nearestUnsettled();
                if (key < 0 || key >= KEYS) {
                    return;
                }
                settled[key] = true;
                goOnFrom(key);
            }
        }

        private int nearestUnsettled() {
            int nearest = NONE;
            for (int key = 0; key < KEYS; key++) {
                if (!settled[key] && costs[key] != NONE && (nearest == NONE || isShorter(key, nearest))) {
                    nearest = key;
                }
            }
            return nearest;
        }

        private boolean isShorter(int key, int other) {
            return costs[key] != costs[other] ? costs[key] < costs[other] : lengths[key] < lengths[other];
        }

        private void goOnFrom(int key) {
            int from = key / STATES;
            int state = key % STATES;
            int targets = steps.targetsOf(from);
            for (int to = 0; to < NODES; to++) {
                for (int kind = ALIAS; kind <= BACK && holds(targets, to); kind++) {
                    int more = steps.costOf(from, state, kind, to);
                    if (more != NONE) {
                        offer(to * STATES + steps.stateBehind(from, state, kind, to), more, key, kind);
                    }
                }
            }
        }

        /** Takes a way to a key, by a step more from another one, if it is better than the one so far. */
        private void offer(int key, int more, int origin, int kind) {
            if (key < 0 || key >= KEYS || origin < 0 || origin >= KEYS || settled[key]) {
                return;
            }
            int newCost = costs[origin] + more;
            int newLength = lengths[origin] + 1;
            boolean better;
            if (costs[key] == NONE) {
                better = true;
            } else if (newCost != costs[key]) {
                better = newCost < costs[key];
            } else if (newLength != lengths[key]) {
                better = newLength < lengths[key];
            } else if (origin != origins[key]) {
                better = origin < origins[key];
            } else {
                better = kind < kinds[key];
            }
            if (better) {
                costs[key] = newCost;
                lengths[key] = newLength;
                origins[key] = origin;
                kinds[key] = kind;
            }
        }

        /** Finds the least costs, with the links back that find() found, by rounds, unless they are known. */
        void findByRounds() {
            if (knownByRounds) {
                return;
            }
            knownByRounds = true;
            for (int key = 0; key < KEYS; key++) {
                roundCosts[key] = NONE;
            }
            int home = homeNode();
            if (home < 0 || home >= NODES) {
                return;
            }
            roundCosts[home * STATES] = 0;
            boolean less = true;
            for (int round = 0; round <= KEYS && less; round++) {
                less = false;
                for (int key = 0; key < KEYS; key++) {
                    if (roundCosts[key] != NONE) {
                        less |= lessenFrom(key, roundCosts[key]);
                    }
                }
            }
        }

        private boolean lessenFrom(int key, int costSoFar) {
            int from = key / STATES;
            int state = key % STATES;
            int targets = steps.targetsOf(from);
            boolean less = false;
            for (int to = 0; to < NODES; to++) {
                for (int kind = ALIAS; kind <= BACK && holds(targets, to); kind++) {
                    int more = steps.costOf(from, state, kind, to);
                    if (more != NONE) {
                        less |= lessen(to * STATES + steps.stateBehind(from, state, kind, to), costSoFar + more);
                    }
                }
            }
            return less;
        }

        private boolean lessen(int key, int newCost) {
            if (key < 0 || key >= KEYS || roundCosts[key] != NONE && roundCosts[key] <= newCost) {
                return false;
            }
            roundCosts[key] = newCost;
            return true;
        }
    }

    /** Writes routes and addresses on the out. */
    private static final class Printer {
        private final Atlas atlas;
        private final Steps steps;
        private final Ways ways;
        private final Text out;

        Printer(Atlas atlas, Steps steps, Ways ways, Text out) {
            this.atlas = atlas;
            this.steps = steps;
            this.ways = ways;
            this.out = out;
        }

        void writeRouteOf(int node) {
            out.clear();
            int length = ways.layOut(node);
            if (length == NONE) {
                return;
            }
            writeLeft(length);
            out.append('%');
            writeRight(length);
        }

        void writeAddress(Text address) {
            out.clear();
            for (int end = address.length() - 1; end >= 0; end--) {
                if (address.byteAt(end) == '!') {
                    int begin = beginOfPart(address, end);
                    int node = nodeOfPart(address, begin, end);
                    if (node != NONE) {
                        writeAlong(node, address, begin, end);
                        return;
                    }
                }
            }
            out.appendPart(address, 0, address.length());
        }

        /** Writes an address by the route of the node that its part from begin to end is known by. */
        private void writeAlong(int node, Text address, int begin, int end) {
            boolean byDomain = end - begin > lengthOfName(node);
            int length = ways.layOut(node);
            writeLeft(length);
            if (byDomain) {
                out.appendPart(address, begin, end);
                out.append('!');
            }
            out.appendPart(address, end + 1, address.length());
            writeRight(length);
        }

        private static int beginOfPart(Text address, int end) {
            int begin = end;
            while (begin > 0 && address.byteAt(begin - 1) != '!') {
                begin--;
            }
            return begin;
        }

        /** The node or else the domain by which a part is known; NONE if it is not. */
        private int nodeOfPart(Text address, int begin, int end) {
            int best = NONE;
            for (int node = 0; node < atlas.size(); node++) {
                if (!endsWithName(address, begin, end, node) || !isRouted(node)) {
                    continue;
                }
                int length = lengthOfName(node);
                if (length == end - begin) {
                    return node;
                }
                if (atlas.isDomain(node) && (best == NONE || length > lengthOfName(best))) {
                    best = node;
                }
            }
            return best;
        }

        private boolean isRouted(int node) {
            return !atlas.isOwned(node) && ways.routeKey(node) != NONE;
        }

        private boolean endsWithName(Text address, int begin, int end, int node) {
            int length = lengthOfName(node);
            if (length > end - begin) {
                return false;
            }
            for (int i = 0; i < length; i++) {
                if (address.byteAt(end - length + i) != nameByte(atlas.nameOf(node), i)) {
                    return false;
                }
            }
            return true;
        }

        private int lengthOfName(int node) {
            int length = 0;
            while (length < NAME_BYTES && nameByte(atlas.nameOf(node), length) != 0) {
                length++;
            }
            return length;
        }

        private void writeLeft(int length) {
            for (int place = 1; place <= length; place++) {
                if (printedMark(place) == LEFT) {
                    writeNameOnWay(place);
                    out.append('!');
                }
            }
        }

        /** The later a step is, the nearer to the %, so the last one is written first. */
        private void writeRight(int length) {
            for (int place = length; place >= 1; place--) {
                if (printedMark(place) == RIGHT) {
                    out.append('@');
                    writeNameOnWay(place);
                }
            }
        }

        /** The mark of the step to a place, if it is printed. */
        private int printedMark(int place) {
            int to = nodeOn(place);
            int kind = ways.kindOfKey(ways.keyOn(place));
            return atlas.kindOf(to) == HOST ? steps.markOf(nodeOn(place - 1), kind, to) : UNMARKED;
        }

        private void writeNameOnWay(int last) {
            out.appendName(atlas.nameOf(nodeOn(last)));
            for (int place = last; place >= 1 && comesFromDomain(place); place--) {
                out.appendName(atlas.nameOf(nodeOn(place - 1)));
            }
        }

        private boolean comesFromDomain(int place) {
            int kind = ways.kindOfKey(ways.keyOn(place));
            return (kind == LINK || kind == BACK || kind == OUT) && atlas.isDomain(nodeOn(place - 1));
        }

        private int nodeOn(int place) {
            return ways.keyOn(place) / STATES;
        }
    }
}
