import java.util.Arrays;

/** A post that sorts letters by rules over sealed kinds; the project's document has every promise. */
public final class LetterPost {
    public static final int BAD = -1, NO = -2, FULL = -3, NONE = -4;

    private static final int FAULT_AT_THE_START = -10;

    private final Tokens tokens;
    private final Kinds kinds;
    private final Reader reader;
    private final TreeMaker maker;
    private final Letters mail;
    private final Sorter sorter;
    private boolean hasText;
    private int kindsOfText;
    private int latestFault;

    public LetterPost() {
        tokens = new Tokens();
        kinds = new Kinds();
        reader = new Reader(tokens, kinds);
        maker = new TreeMaker(kinds);
        mail = new Letters(kinds);
        sorter = new Sorter(reader, kinds, mail);
    }

    public int feed(long w, int n) {
        if (n < 1 || n > 8) {
            return BAD;
        }
        return tokens.append(w, n) ? tokens.length : FULL;
    }

    public int read() {
        if (hasText) {
            return NO;
        }
        boolean sound = reader.readText();
        latestFault = reader.fault;
        if (!sound) {
            reader.forgetText();
            return FAULT_AT_THE_START - reader.faultSpot;
        }
        for (int f = 0; f < reader.functionCount; f++) {
            Function made = reader.functionAt(f);
            if (made == null || !maker.draw(made, TreeMaker.FIRST_PLACE, made.allRows())) {
                reader.forgetText();
                return FULL;
            }
            maker.handOver(made);
        }
        hasText = true;
        kindsOfText = kinds.size;
        return reader.functionCount;
    }

    public int fault() {
        return latestFault;
    }

    public int add() {
        if (!hasText) {
            return NO;
        }
        int before = kinds.size;
        boolean sound = reader.readLateKind();
        latestFault = reader.fault;
        if (!sound) {
            kinds.size = before;
            return FAULT_AT_THE_START - reader.faultSpot;
        }
        return before;
    }

    public int remake(int function, int way) {
        Function asked = reader.functionAt(function);
        if (asked == null || way < TreeMaker.FIRST_PLACE || way > TreeMaker.LAST_PLACE) {
            return BAD;
        }
        if (!maker.draw(asked, way, asked.allRows())) {
            return FULL;
        }
        maker.handOver(asked);
        return asked.tree.size;
    }

    public int kind(int k, int what) {
        if (!kinds.has(k) || what < 0 || what > 7) {
            return BAD;
        }
        if (what == 7) {
            Function first = reader.functionAt(0);
            return first != null && k >= first.tree.kindsThen ? 1 : 0;
        }
        return kinds.tell(k, what);
    }

    public int kindNamed(long name) {
        int k = kinds.find(name);
        return k < 0 ? NONE : k;
    }

    public int function(int f, int what) {
        Function asked = reader.functionAt(f);
        if (asked == null || what < 0 || what > 8) {
            return BAD;
        }
        return asked.tell(what);
    }

    public int node(int f, int n, int what) {
        Function asked = reader.functionAt(f);
        if (asked == null || !asked.tree.has(n) || what < 0 || what > 4) {
            return BAD;
        }
        return asked.tellNode(n, what);
    }

    public int branch(int f, int n, int i) {
        Function asked = reader.functionAt(f);
        if (asked == null || !asked.tree.has(n) || i < 0 || i >= asked.tree.branches[n]) {
            return BAD;
        }
        return asked.tree.behind(n, i);
    }

    public int missing(int f) {
        Function asked = reader.functionAt(f);
        if (asked == null) {
            return BAD;
        }
        if (!maker.draw(asked, TreeMaker.FIRST_PLACE, asked.unguardedRows())) {
            return FULL;
        }
        return maker.spare.hasNone() ? 1 : 0;
    }

    public int unreached(int f, int rule) {
        Function asked = reader.functionAt(f);
        if (asked == null || rule < 0 || rule >= asked.ruleCount) {
            return BAD;
        }
        if (!maker.draw(asked, TreeMaker.FIRST_PLACE, asked.allRows())) {
            return FULL;
        }
        return asked.comesTo(maker.spare, rule) ? 0 : 1;
    }

    public int whole(int v) {
        return mail.put(Letters.WHOLE, v);
    }

    public int truth(int v) {
        return mail.put(Letters.TRUTH, v == 0 ? 0 : 1);
    }

    public int letters(long text) {
        return Letters.isText(text) ? mail.put(Letters.TEXT, text) : BAD;
    }

    public int nothing() {
        return mail.put(Letters.NOTHING, Kinds.NOTHING);
    }

    public int make(int kind, int a, int b, int c, int d) {
        if (!kinds.isLeaf(kind)) {
            return BAD;
        }
        mail.offer(a, b, c, d);
        if (!mail.offerSuits(kind)) {
            return BAD;
        }
        return mail.putLeaf(kind);
    }

    public int value(int v, int what) {
        return mail.has(v) ? mail.tell(v, what) : NONE;
    }

    public int alike(int a, int b) {
        if (!mail.has(a) || !mail.has(b)) {
            return BAD;
        }
        return mail.twins[a] == mail.twins[b] ? 1 : 0;
    }

    public int sort(int f, int a, int b, int c) {
        return sorter.takes(f, a, b, c) ? sorter.run(f, true) : BAD;
    }

    public int plain(int f, int a, int b, int c) {
        return sorter.takes(f, a, b, c) ? sorter.run(f, false) : BAD;
    }

    public int told(int what) {
        return what < 0 || what >= Sorter.TOLD ? BAD : sorter.report[what];
    }

    public int guard(int i) {
        return i < 0 || i >= sorter.guardsKept ? NONE : sorter.guards[i];
    }

    public int bound(int i) {
        return i < 0 || i >= sorter.firstCount ? NONE : sorter.firstBound[i];
    }

    public int count(int what) {
        switch (what) {
            case 0:
                return kinds.size;
            case 1:
                return reader.functionCount;
            case 2:
                return mail.size;
            case 3:
                return tokens.length;
            case 4:
                return kinds.size - kindsOfText;
            default:
                return BAD;
        }
    }

    /** The tape, and the tokens that it was cut into when it was last used up. */
    private static final class Tokens {
        static final int END = 256, WRONG = 257, NAME = 258, KINDNAME = 259, NUMBER = 260, TEXT = 261, DOTS = 262;
        static final int KIND = 270, UNDER = 271, SORT = 272, IF = 273, AS = 274, WHOLE = 275, TRUTH = 276;
        static final int TEXTS = 277, TRUE = 278, FALSE = 279, NONE = 280;
        static final int TAPE = 1600, LONGEST_WORD = 8, MOST_FIGURES = 9;
        // kind under sort if as whole truth text true false none, as bytes, in the order of the types above
        private static final long[] WORDS = {
            0x6b696e64L, 0x756e646572L, 0x736f7274L, 0x6966L, 0x6173L, 0x77686f6c65L,
            0x7472757468L, 0x74657874L, 0x74727565L, 0x66616c7365L, 0x6e6f6e65L};
        private static final String SIGNS = ";,(){}:|_<=>+-*/%";

        private final byte[] tape = new byte[TAPE];
        int length;
        private final int[] types = new int[TAPE + 1];
        private final int[] spots = new int[TAPE + 1];
        private final long[] worths = new long[TAPE + 1];
        private int size;
        private int at;
        /** Of the token that is looked at: a sign's type is its byte. */
        int type;
        int spot;
        long worth;

        boolean append(long w, int n) {
            if (length + n > TAPE) {
                return false;
            }
            for (int i = n - 1; i >= 0; i--) {
                tape[length] = (byte) (w >>> (8 * i));
                length++;
            }
            return true;
        }

        /** Cuts the whole tape; nothing behind a wrong token is looked at, for reading ends there at the latest. */
        void cut() {
            size = 0;
            int from = 0;
            boolean more = true;
            for (int i = 0; i <= TAPE && more; i++) {
                from = cutOne(behindBlanks(from));
                int latest = types[size - 1];
                more = latest != END && latest != WRONG;
            }
            length = 0;
            at = -1;
            step();
        }

        private int behindBlanks(int from) {
            int end = from;
            while (end < length && (tape[end] == 32 || tape[end] == 10)) {
                end++;
            }
            return end;
        }

        private int cutOne(int from) {
            if (from >= length) {
                return put(END, from, from, 0);
            }
            int b = tape[from];
            if (isSmall(b)) {
                return cutName(from, NAME);
            }
            if (b >= 'A' && b <= 'Z') {
                return cutName(from, KINDNAME);
            }
            if (isFigure(b)) {
                return cutNumber(from);
            }
            if (b == '\'') {
                return cutText(from);
            }
            if (b == '.' && from + 1 < length && tape[from + 1] == '.') {
                return put(DOTS, from, from + 2, 0);
            }
            boolean sign = b > 0 && SIGNS.indexOf((char) b) >= 0;
            return put(sign ? b : WRONG, from, from + 1, 0);
        }

        private int cutName(int from, int sort) {
            int end = from + 1;
            while (end < length && (isSmall(tape[end]) || isFigure(tape[end]))) {
                end++;
            }
            if (end - from > LONGEST_WORD) {
                return put(WRONG, from, end, 0);
            }
            long name = packed(from, end);
            return put(sort == NAME ? wordOrName(name) : sort, from, end, name);
        }

        private int cutNumber(int from) {
            int end = from;
            long number = 0;
            while (end < length && isFigure(tape[end])) {
                number = end - from < MOST_FIGURES ? number * 10 + (tape[end] - '0') : number;
                end++;
            }
            return put(end - from > MOST_FIGURES ? WRONG : NUMBER, from, end, number);
        }

        private int cutText(int from) {
            int end = from + 1;
            while (end < length && isSmall(tape[end])) {
                end++;
            }
            boolean ended = end < length && tape[end] == '\'';
            if (!ended || end - from - 1 > LONGEST_WORD) {
                return put(WRONG, from, end, 0);
            }
            return put(TEXT, from, end + 1, packed(from + 1, end));
        }

        private int put(int sort, int from, int next, long told) {
            if (size <= TAPE) {
                types[size] = sort;
                spots[size] = from;
                worths[size] = told;
                size++;
            }
            return next;
        }

        private long packed(int from, int to) {
            long name = 0;
            for (int i = from; i < to; i++) {
                name = name << 8 | tape[i];
            }
            return name;
        }

        private static int wordOrName(long name) {
            for (int i = 0; i < WORDS.length; i++) {
                if (WORDS[i] == name) {
                    return KIND + i;
                }
            }
            return NAME;
        }

        private static boolean isSmall(int b) {
            return b >= 'a' && b <= 'z';
        }

        private static boolean isFigure(int b) {
            return b >= '0' && b <= '9';
        }

        /** The type of the token so many behind this one; beyond the last it is the last one's. */
        int typeBehind(int far) {
            return types[Math.min(at + far, size - 1)];
        }

        long worthBehind(int far) {
            return worths[Math.min(at + far, size - 1)];
        }

        void step() {
            if (at + 1 < size) {
                at++;
                type = types[at];
                spot = spots[at];
                worth = worths[at];
            }
        }
    }

    /** The kinds, those of the text and the late ones; a sort is a number, 3 and more being kinds. */
    private static final class Kinds {
        static final int MOST = 24, MOST_PARTS = 4;
        static final int WHOLE = 0, TRUTH = 1, TEXT = 2, FIRST = 3;
        /** What stands for NOTHING where else a leaf's number stands. */
        static final int NOTHING = -1;

        int size;
        private final long[] names = new long[MOST];
        private final int[] under = new int[MOST];
        private final boolean[] hasUnder = new boolean[MOST];
        private final int[] partCounts = new int[MOST];
        private final int[] parts = new int[MOST * MOST_PARTS];

        boolean has(int k) {
            return k >= 0 && k < size;
        }

        int find(long name) {
            for (int k = 0; k < size; k++) {
                if (names[k] == name) {
                    return k;
                }
            }
            return -1;
        }

        /** A new kind under none, without parts, or -1 if there is no room for it. */
        int begin(long name) {
            if (size >= MOST) {
                return -1;
            }
            names[size] = name;
            under[size] = -1;
            hasUnder[size] = false;
            partCounts[size] = 0;
            size++;
            return size - 1;
        }

        void putUnder(int k, int upper) {
            if (has(k) && has(upper)) {
                under[k] = upper;
                hasUnder[upper] = true;
            }
        }

        void addPart(int k, int sort) {
            if (has(k) && partCounts[k] < MOST_PARTS) {
                parts[k * MOST_PARTS + partCounts[k]] = sort;
                partCounts[k]++;
            }
        }

        int partCount(int k) {
            return k >= 0 && k < size ? partCounts[k] : 0;
        }

        int partSort(int k, int i) {
            return i >= 0 && i < partCount(k) ? parts[k * MOST_PARTS + i] : LetterPost.NONE;
        }

        boolean isSealed(int k) {
            return k >= 0 && k < size && hasUnder[k];
        }

        boolean isLeaf(int k) {
            return k >= 0 && k < size && !hasUnder[k];
        }

        boolean isOrUnder(int k, int upper) {
            int at = k;
            for (int i = 0; i < MOST && at >= 0 && at < size; i++) {
                if (at == upper) {
                    return true;
                }
                at = under[at];
            }
            return false;
        }

        /** Whether a kind's name may stand as a pattern of a sort. */
        boolean canStand(int k, int sort) {
            return sort >= FIRST && (isOrUnder(k, sort - FIRST) || isOrUnder(sort - FIRST, k));
        }

        /** Whether what is of one sort is always of the other. */
        boolean suits(int given, int wanted) {
            if (given < FIRST || wanted < FIRST) {
                return given == wanted;
            }
            return isOrUnder(given - FIRST, wanted - FIRST);
        }

        /** Whether a test holds of a label: a number, 0 or 1, a text's bytes, a leaf or NOTHING. */
        boolean holds(Pattern test, long label) {
            if (test.what == Pattern.KIND) {
                return label >= 0 && isOrUnder((int) label, (int) test.low);
            }
            return test.low <= label && label <= test.high;
        }

        int tell(int k, int what) {
            switch (what) {
                case 0:
                    return under[k] < 0 ? LetterPost.NONE : under[k];
                case 1:
                    return hasUnder[k] ? 1 : 0;
                case 2:
                    return partCounts[k];
                default:
                    return partSort(k, what - 3);
            }
        }
    }

    /** A pattern as it stands in a rule; its parts or alternatives hang on it as a chain. */
    private static final class Pattern {
        static final int ANY = 0, RANGE = 1, KIND = 2, EITHER = 3;
        // far above the 40 rows of a function, and low enough that products of two stay ints
        static final int MANY_WAYS = 10000;

        int what = ANY;
        final int sort;
        final int place;
        long low;
        long high;
        long name;
        long asName;
        Pattern first;
        Pattern next;
        int ways = 1;

        Pattern(int sort, int place) {
            this.sort = sort;
            this.place = place;
        }

        void want(long lowest, long highest) {
            what = RANGE;
            low = lowest;
            high = highest;
        }

        void wantKind(int k) {
            what = KIND;
            low = k;
            high = k;
        }

        /** Hangs a part or an alternative behind the last one, if there is one; answers it as the new last. */
        Pattern hang(Pattern one, Pattern last) {
            if (last == null) {
                first = one;
            } else {
                last.next = one;
            }
            return one;
        }

        /** In how many ways alternatives can be taken all along a chain. */
        static int chainWays(Pattern chain) {
            int all = 1;
            for (Pattern p = chain; p != null; p = p.next) {
                all = Math.min(MANY_WAYS, all * p.ways);
            }
            return all;
        }
    }

    /** A rule as it was read; names are told by their numbers in it. */
    private static final class Rule {
        static final int MOST_NAMES = 8, MOST_ARGS = 3;
        static final int NUMBER = 0, NAME = 1, CALL = 2;

        final int number;
        final int spot;
        Pattern patterns;
        int ways = 1;
        /** All names so far, those that another alternative alone binds among them: the limit counts these, too. */
        int nameCount;
        private final long[] names = new long[MOST_NAMES];
        /** Byte i is 1 more than the sort of name i; 0: the alternatives that are being read do not bind it. */
        long bindings;
        /** The sign between the guard's sums; 0 without a guard. */
        int compare;
        final int[] signs = new int[2];
        final int[] termNames = new int[4];
        final int[] termNumbers = new int[4];
        int answer = NUMBER;
        /** The number, or the number of the name, that the rule answers. */
        int answerWorth;
        long callName;
        int callSpot;
        int argCount;
        final int[] args = new int[MOST_ARGS];
        final int[] argSpots = new int[MOST_ARGS];
        int callee;

        Rule(int number, int spot) {
            this.number = number;
            this.spot = spot;
        }

        boolean isGuarded() {
            return compare != 0;
        }

        int nameNumber(long name) {
            for (int i = 0; i < nameCount; i++) {
                if (names[i] == name) {
                    return i;
                }
            }
            return -1;
        }

        /** The sort of a name as it is bound now, or -1. */
        int nameSort(int i) {
            return i >= 0 && i < nameCount ? (int) (bindings >>> (8 * i) & 255) - 1 : -1;
        }

        /** The fault of binding a name here, 0 if it has none. */
        int nameFault(long name) {
            int i = nameNumber(name);
            if (i < 0) {
                return nameCount >= MOST_NAMES ? Reader.MUCH : 0;
            }
            return nameSort(i) < 0 ? 0 : Reader.THERE_ALREADY;
        }

        void hold(long name, int sort) {
            int i = nameNumber(name);
            if (i < 0 && nameCount < MOST_NAMES) {
                i = nameCount;
                names[i] = name;
                nameCount++;
            }
            if (i >= 0) {
                bindings |= (sort + 1L) << (8 * i);
            }
        }

        void addArg(int name, int at) {
            if (argCount < MOST_ARGS) {
                args[argCount] = name;
                argSpots[argCount] = at;
            }
            argCount++;
        }
    }

    /** One way to take the alternatives of a rule: its tests from the left to the right, and where its names lie. */
    private static final class Row {
        final Rule rule;
        int testCount;
        final Pattern[] tests;
        private final Pattern[] byPlace;
        final int[] nameplaces = new int[Rule.MOST_NAMES];

        Row(Rule rule, int places) {
            this.rule = rule;
            tests = new Pattern[places];
            byPlace = new Pattern[places];
        }

        /** The test at a place, or null. */
        Pattern at(int place) {
            return place >= 0 && place < byPlace.length ? byPlace[place] : null;
        }

        /** Ways turn like the figures of a number, the first pattern's slowest. */
        void layChain(Pattern chain, int way, int depth) {
            int left = way;
            for (Pattern p = chain; p != null; p = p.next) {
                int turns = Pattern.chainWays(p.next);
                if (turns > 0) {
                    lay(p, left / turns, depth);
                    left = left % turns;
                }
            }
        }

        private void lay(Pattern p, int way, int depth) {
            if (depth > Reader.DEEPEST) {
                return;
            }
            holdName(p.name, p.place);
            holdName(p.asName, p.place);
            if (p.what == Pattern.EITHER) {
                layAlternative(p, way, depth);
            } else if (p.what != Pattern.ANY) {
                addTest(p);
                layChain(p.first, way, depth + 1);
            }
        }

        private void layAlternative(Pattern either, int way, int depth) {
            int left = way;
            for (Pattern p = either.first; p != null; p = p.next) {
                if (left < p.ways) {
                    lay(p, left, depth + 1);
                    return;
                }
                left -= p.ways;
            }
        }

        private void addTest(Pattern test) {
            if (testCount < tests.length && test.place < byPlace.length) {
                tests[testCount] = test;
                byPlace[test.place] = test;
                testCount++;
            }
        }

        private void holdName(long name, int place) {
            int i = rule.nameNumber(name);
            if (i >= 0 && i < nameplaces.length) {
                nameplaces[i] = place;
            }
        }
    }

    /** A function: columns, rules, rows, the places that its patterns look at, and its tree. */
    private static final class Function {
        static final int MOST_COLUMNS = 3, MOST_RULES = 16, MOST_ROWS = 40;

        final long name;
        int columns;
        final int[] sorts = new int[MOST_COLUMNS];
        int ruleCount;
        final Rule[] rules = new Rule[MOST_RULES];
        int rowCount;
        final Row[] rows = new Row[MOST_ROWS];
        int placeCount;
        private int[] placeUps = new int[16];
        private int[] placeNumbers = new int[16];
        Tree tree = new Tree();

        Function(long name) {
            this.name = name;
        }

        void addColumn(int sort) {
            if (columns < MOST_COLUMNS) {
                sorts[columns] = sort;
                columns++;
                placeIn(-1, columns - 1);
            }
        }

        void addRule(Rule rule) {
            if (ruleCount < MOST_RULES) {
                rules[ruleCount] = rule;
                ruleCount++;
            }
        }

        /** The place that lies so in another, or, in none (-1), the column; columns come first, so they are 0, 1, 2. */
        int placeIn(int up, int number) {
            for (int p = 0; p < placeCount; p++) {
                if (placeUps[p] == up && placeNumbers[p] == number) {
                    return p;
                }
            }
            if (placeCount >= placeUps.length) {
                placeUps = Arrays.copyOf(placeUps, placeCount * 2);
                placeNumbers = Arrays.copyOf(placeNumbers, placeCount * 2);
            }
            placeUps[placeCount] = up;
            placeNumbers[placeCount] = number;
            placeCount++;
            return placeCount - 1;
        }

        int placeUp(int place) {
            return place >= 0 && place < placeCount ? placeUps[place] : -1;
        }

        int placeNumber(int place) {
            return place >= 0 && place < placeCount ? placeNumbers[place] : -1;
        }

        private int placeDepth(int place) {
            int depth = 0;
            int up = placeUp(place);
            while (up >= 0 && depth < placeCount) {
                depth++;
                up = placeUp(up);
            }
            return depth;
        }

        /** The rule with which there are too many rows, or null. */
        Rule firstWithTooManyRows() {
            int all = 0;
            for (int r = 0; r < ruleCount; r++) {
                all += rules[r].ways;
                if (all > MOST_ROWS) {
                    return rules[r];
                }
            }
            return null;
        }

        void layRows() {
            rowCount = 0;
            for (int r = 0; r < ruleCount; r++) {
                Rule rule = rules[r];
                for (int way = 0; way < rule.ways && rowCount < MOST_ROWS; way++) {
                    Row row = new Row(rule, placeCount);
                    row.layChain(rule.patterns, way, 0);
                    rows[rowCount] = row;
                    rowCount++;
                }
            }
        }

        long allRows() {
            return (1L << rowCount) - 1;
        }

        long rowsOf(Rule rule) {
            long mask = 0;
            for (int r = 0; r < rowCount; r++) {
                if (rows[r].rule == rule) {
                    mask |= 1L << r;
                }
            }
            return mask;
        }

        long unguardedRows() {
            long mask = 0;
            for (int r = 0; r < rowCount; r++) {
                if (!rows[r].rule.isGuarded()) {
                    mask |= 1L << r;
                }
            }
            return mask;
        }

        Row rowAt(int r) {
            return r >= 0 && r < rowCount ? rows[r] : null;
        }

        /** Whether a tree of this function has an ANSWER or GUARD node of a rule. */
        boolean comesTo(Tree drawn, int rule) {
            for (int n = 0; n < drawn.size; n++) {
                Row row = rowAt(drawn.rows[n]);
                if (row != null && row.rule.number == rule) {
                    return true;
                }
            }
            return false;
        }

        int tell(int what) {
            switch (what) {
                case 0:
                    return columns;
                case 1:
                    return ruleCount;
                case 2:
                    return rowCount;
                case 3:
                    return tree.size;
                case 4:
                    return tree.way;
                case 5:
                    return tree.depth;
                default:
                    int column = what - 6;
                    return column >= 0 && column < columns ? sorts[column] : LetterPost.NONE;
            }
        }

        int tellNode(int n, int what) {
            boolean test = tree.whats[n] >= Tree.KIND;
            switch (what) {
                case 0:
                    return tree.whats[n];
                case 1:
                    Row row = rowAt(tree.rows[n]);
                    return row == null ? LetterPost.NONE : row.rule.number;
                case 2:
                    return tree.branches[n];
                case 3:
                    return test ? placeDepth(tree.places[n]) : LetterPost.NONE;
                default:
                    return test ? placeNumber(tree.places[n]) : LetterPost.NONE;
            }
        }
    }

    /** A tree of tests; a node stands ahead of all that hangs on it, so the next branch begins where one ends. */
    private static final class Tree {
        static final int MOST = 120;
        static final int NONE = 0, ANSWER = 1, GUARD = 2, KIND = 3, TRUTH = 4, TEXT = 5, WHOLE = 6;

        int size;
        int depth;
        int way;
        int kindsThen;
        final int[] whats = new int[MOST];
        /** The row of an ANSWER or GUARD node; else -1. */
        final int[] rows = new int[MOST];
        final int[] places = new int[MOST];
        final int[] branches = new int[MOST];
        private final int[] ends = new int[MOST];
        /** The label of the branch that leads to a node: of a WHOLE, the greatest number of its part. */
        private final long[] labels = new long[MOST];

        void clear(int newWay, int kindsNow) {
            size = 0;
            depth = 0;
            way = newWay;
            kindsThen = kindsNow;
        }

        boolean has(int n) {
            return n >= 0 && n < size;
        }

        /** A new NONE node, or -1 if there is no room for it. */
        int begin(long label, int level) {
            if (size >= MOST) {
                return -1;
            }
            int n = size;
            whats[n] = NONE;
            rows[n] = -1;
            places[n] = -1;
            branches[n] = 0;
            labels[n] = label;
            size++;
            depth = Math.max(depth, level);
            return n;
        }

        void end(int n) {
            if (has(n)) {
                ends[n] = size;
            }
        }

        int behind(int n, int i) {
            int at = n + 1;
            for (int b = 0; b < i && has(at); b++) {
                at = ends[at];
            }
            return at;
        }

        boolean hasNone() {
            for (int n = 0; n < size; n++) {
                if (whats[n] == NONE) {
                    return true;
                }
            }
            return false;
        }

        /** The node behind the branch of a label, or -1: only a late leaf has none. */
        int follow(int n, long label) {
            int at = n + 1;
            for (int b = 0; b < branches[n] && has(at); b++) {
                if (leads(whats[n], labels[at], label)) {
                    return at;
                }
                at = ends[at];
            }
            return -1;
        }

        private static boolean leads(int what, long branchLabel, long label) {
            switch (what) {
                case WHOLE:
                    return label <= branchLabel;
                case TEXT:
                    return label == branchLabel || branchLabel == TreeMaker.OTHERS;
                default:
                    return label == branchLabel;
            }
        }
    }

    /** Makes trees; a tree that would be too large is given up, and the one ahead of it stays. */
    private static final class TreeMaker {
        static final int FIRST_PLACE = 0, MOST_ROWS_AT = 1, FEWEST_BRANCHES = 2, LAST_PLACE = 3;
        static final long OTHERS = -1;
        private static final long UNKNOWN = Long.MIN_VALUE;
        // those of the open nodes are promised nodes, and one place more is looked at: 2 for each row, and 1
        private static final int MOST_LABELS = Tree.MOST + 2 * Function.MOST_ROWS + 1;

        private final Kinds kinds;
        /** The tree drawn last. */
        Tree spare = new Tree();
        private Function function;
        private int way;
        private long[] known = new long[16];
        private final long[] labels = new long[MOST_LABELS];
        private int labelCount;
        private int promised;

        TreeMaker(Kinds kinds) {
            this.kinds = kinds;
        }

        /** Gives a function the tree drawn last, and takes the one ahead of it to draw on. */
        void handOver(Function renewed) {
            Tree old = renewed.tree;
            renewed.tree = spare;
            spare = old;
        }

        boolean draw(Function drawn, int drawnWay, long rows) {
            function = drawn;
            way = drawnWay;
            if (known.length < drawn.placeCount) {
                known = new long[drawn.placeCount];
            }
            Arrays.fill(known, UNKNOWN);
            labelCount = 0;
            promised = 1;
            spare.clear(drawnWay, kinds.size);
            return grow(rows, 0, 1);
        }

        private boolean grow(long rows, long label, int level) {
            int n = level > Tree.MOST ? -1 : spare.begin(label, level);
            if (n < 0) {
                return false;
            }
            boolean grown = true;
            long live = stillPossible(rows);
            if (live != 0) {
                int first = Long.numberOfTrailingZeros(live);
                Row row = function.rowAt(first);
                int place = row == null ? -1 : chosenPlace(row, live);
                grown = row == null || (place < 0 ? settle(n, live, first, level) : split(n, live, place, level));
            }
            spare.end(n);
            return grown;
        }

        /** Each node counts as soon as the branch to it does, so a tree that grows too large is given up early. */
        private boolean promise(int nodes) {
            promised += nodes;
            return promised <= Tree.MOST;
        }

        private boolean settle(int n, long live, int first, int level) {
            Rule rule = function.rows[first].rule;
            spare.rows[n] = first;
            if (!rule.isGuarded()) {
                spare.whats[n] = Tree.ANSWER;
                return true;
            }
            spare.whats[n] = Tree.GUARD;
            spare.branches[n] = 1;
            return promise(1) && grow(live & ~function.rowsOf(rule), 0, level + 1);
        }

        private boolean split(int n, long live, int place, int level) {
            int from = labelCount;
            int sort = pushLabels(place, live);
            int to = labelCount;
            spare.whats[n] = nodeOf(sort);
            spare.places[n] = place;
            spare.branches[n] = to - from;
            boolean grown = promise(to - from);
            for (int i = from; i < to && grown; i++) {
                known[place] = labels[i];
                grown = grow(live, labels[i], level + 1);
            }
            known[place] = UNKNOWN;
            labelCount = from;
            return grown;
        }

        private static int nodeOf(int sort) {
            switch (sort) {
                case Kinds.WHOLE:
                    return Tree.WHOLE;
                case Kinds.TRUTH:
                    return Tree.TRUTH;
                case Kinds.TEXT:
                    return Tree.TEXT;
                default:
                    return Tree.KIND;
            }
        }

        private long stillPossible(long rows) {
            long live = 0;
            for (int r = 0; r < function.rowCount; r++) {
                if ((rows >> r & 1) == 1 && isPossible(function.rows[r])) {
                    live |= 1L << r;
                }
            }
            return live;
        }

        private boolean isPossible(Row row) {
            for (int t = 0; t < row.testCount; t++) {
                Pattern test = row.tests[t];
                if (isKnown(test.place) && !kinds.holds(test, known[test.place])) {
                    return false;
                }
            }
            return true;
        }

        private boolean isKnown(int place) {
            return place >= 0 && place < known.length && known[place] != UNKNOWN;
        }

        /** The place to ask at, by the way; -1 if the row has no test left. */
        private int chosenPlace(Row row, long live) {
            int chosen = -1;
            int best = 0;
            for (int t = 0; t < row.testCount; t++) {
                int place = row.tests[t].place;
                if (canBeAsked(place)) {
                    int worth = worthOf(place, t, live);
                    if (chosen < 0 || worth > best) {
                        chosen = place;
                        best = worth;
                    }
                }
            }
            return chosen;
        }

        /** What lies in a part can be asked only when the kind that has the part is known. */
        private boolean canBeAsked(int place) {
            int up = function.placeUp(place);
            return !isKnown(place) && (up < 0 || isKnown(up));
        }

        private int worthOf(int place, int order, long live) {
            switch (way) {
                case MOST_ROWS_AT:
                    return rowsAt(place, live);
                case FEWEST_BRANCHES:
                    int from = labelCount;
                    pushLabels(place, live);
                    int branches = labelCount - from;
                    labelCount = from;
                    return -branches;
                case LAST_PLACE:
                    return order;
                default:
                    return 0;
            }
        }

        private int rowsAt(int place, long live) {
            int all = 0;
            for (int r = 0; r < function.rowCount; r++) {
                if (testAt(place, r, live) != null) {
                    all++;
                }
            }
            return all;
        }

        private Pattern testAt(int place, int r, long live) {
            return (live >> r & 1) == 1 ? function.rows[r].at(place) : null;
        }

        /** Labels of all branches at a place, in order; answers the place's sort, which all tests there share. */
        private int pushLabels(int place, long live) {
            int from = labelCount;
            int sort = Kinds.WHOLE;
            for (int r = 0; r < function.rowCount; r++) {
                Pattern test = testAt(place, r, live);
                if (test != null) {
                    sort = test.sort;
                    if (sort == Kinds.WHOLE) {
                        pushUpward(test.low - 1, from);
                        pushUpward(test.high, from);
                    } else if (sort == Kinds.TEXT && !isPushed(test.low, from)) {
                        push(test.low);
                    }
                }
            }
            pushLastLabels(sort);
            return sort;
        }

        private void pushLastLabels(int sort) {
            if (sort == Kinds.WHOLE) {
                push(Integer.MAX_VALUE);
            } else if (sort == Kinds.TRUTH) {
                push(0);
                push(1);
            } else if (sort == Kinds.TEXT) {
                push(OTHERS);
            } else {
                push(Kinds.NOTHING);
                for (int k = 0; k < kinds.size; k++) {
                    if (kinds.isLeaf(k) && kinds.isOrUnder(k, sort - Kinds.FIRST)) {
                        push(k);
                    }
                }
            }
        }

        private boolean isPushed(long label, int from) {
            for (int i = from; i < labelCount; i++) {
                if (labels[i] == label) {
                    return true;
                }
            }
            return false;
        }

        private void push(long label) {
            if (labelCount < MOST_LABELS) {
                labels[labelCount] = label;
                labelCount++;
            }
        }

        private void pushUpward(long label, int from) {
            if (isPushed(label, from) || labelCount >= MOST_LABELS) {
                return;
            }
            int i = labelCount;
            while (i > from && labels[i - 1] > label) {
                labels[i] = labels[i - 1];
                i--;
            }
            labels[i] = label;
            labelCount++;
        }
    }

    /** The values. A label tells what a value is beside its parts, in the form that tests want. */
    private static final class Letters {
        static final int WHOLE = 0, TRUTH = 1, TEXT = 2, NOTHING = 3, LEAF = 4;
        private static final int MOST = 160, LARGEST = 60;

        private final Kinds kinds;
        int size;
        private final int[] whats = new int[MOST];
        final long[] labels = new long[MOST];
        private final int[] bulks = new int[MOST];
        private final int[] partCounts = new int[MOST];
        private final int[] parts = new int[MOST * Kinds.MOST_PARTS];
        /** The first value that each is alike to. */
        final int[] twins = new int[MOST];
        private final int[] offered = new int[Kinds.MOST_PARTS];

        Letters(Kinds kinds) {
            this.kinds = kinds;
        }

        static boolean isText(long text) {
            boolean begun = false;
            for (int shift = 56; shift >= 0; shift -= 8) {
                int b = (int) (text >>> shift & 255);
                begun = begun || b != 0;
                if (begun && (b < 'a' || b > 'z')) {
                    return false;
                }
            }
            return true;
        }

        boolean has(int v) {
            return v >= 0 && v < size;
        }

        int put(int what, long label) {
            return putSized(what, label, 1, 0);
        }

        void offer(int a, int b, int c, int d) {
            offered[0] = a;
            offered[1] = b;
            offered[2] = c;
            offered[3] = d;
        }

        boolean offerSuits(int leaf) {
            for (int i = 0; i < kinds.partCount(leaf); i++) {
                if (!isOf(offered[i], kinds.partSort(leaf, i))) {
                    return false;
                }
            }
            return true;
        }

        int putLeaf(int leaf) {
            int bulk = 1;
            int count = kinds.partCount(leaf);
            for (int i = 0; i < count; i++) {
                bulk += has(offered[i]) ? bulks[offered[i]] : 0;
            }
            return putSized(LEAF, leaf, bulk, count);
        }

        private int putSized(int what, long label, int bulk, int count) {
            if (size >= MOST || bulk > LARGEST) {
                return LetterPost.FULL;
            }
            int v = size;
            whats[v] = what;
            labels[v] = label;
            bulks[v] = bulk;
            partCounts[v] = count;
            System.arraycopy(offered, 0, parts, v * Kinds.MOST_PARTS, count);
            twins[v] = firstLike(v);
            size++;
            return v;
        }

        /** Parts came ahead and have their twins, so looking at one level is enough. */
        private int firstLike(int v) {
            for (int i = 0; i < v; i++) {
                if (whats[i] == whats[v] && labels[i] == labels[v] && haveLikeParts(i, v)) {
                    return i;
                }
            }
            return v;
        }

        private boolean haveLikeParts(int a, int b) {
            for (int i = 0; i < partCounts[a]; i++) {
                if (twins[parts[a * Kinds.MOST_PARTS + i]] != twins[parts[b * Kinds.MOST_PARTS + i]]) {
                    return false;
                }
            }
            return true;
        }

        /** A part as a value, or NONE. */
        int part(int v, int i) {
            boolean there = v >= 0 && v < size && i >= 0 && i < partCounts[v];
            return there ? parts[v * Kinds.MOST_PARTS + i] : LetterPost.NONE;
        }

        boolean isOf(int v, int sort) {
            if (!has(v)) {
                return false;
            }
            if (sort < Kinds.FIRST) {
                return whats[v] == sort;
            }
            return whats[v] == NOTHING
                || whats[v] == LEAF && kinds.isOrUnder((int) labels[v], sort - Kinds.FIRST);
        }

        int tell(int v, int what) {
            switch (what) {
                case 0:
                    return whats[v];
                case 1:
                    return worth(v);
                case 2:
                    return bulks[v];
                default:
                    return what < 3 ? LetterPost.NONE : part(v, what - 3);
            }
        }

        private int worth(int v) {
            switch (whats[v]) {
                case TEXT:
                    return (71 - Long.numberOfLeadingZeros(labels[v])) / 8;
                case NOTHING:
                    return LetterPost.NONE;
                default:
                    return (int) labels[v];
            }
        }
    }

    /** Sorts letters, and keeps what the latest sorting told. */
    private static final class Sorter {
        static final int TOLD = 7;
        private static final int OUTCOME = 0, ANSWER = 1, BEGUN = 2, TESTS = 3, GUARDS = 4, FUNCTION = 5, RULE = 6;
        private static final int NO_RULE = 1, LATE = 2, THREW = 3, SPENT = 4;
        private static final int MOST_BEGUN = 100, MOST_GUARDS = 32;

        private final Reader reader;
        private final Kinds kinds;
        private final Letters mail;
        private final int[] handed = new int[Function.MOST_COLUMNS];
        /** What the names of the rule that was looked at last are bound to. */
        private final int[] held = new int[Rule.MOST_NAMES];
        private int current;
        private boolean threw;
        final int[] report = new int[TOLD];
        final int[] guards = new int[MOST_GUARDS];
        int guardsKept;
        final int[] firstBound = new int[Rule.MOST_NAMES];
        int firstCount;

        Sorter(Reader reader, Kinds kinds, Letters mail) {
            this.reader = reader;
            this.kinds = kinds;
            this.mail = mail;
        }

        /** Whether there is such a function, and the letters are of its sorts; if so, they are handed to it. */
        boolean takes(int f, int a, int b, int c) {
            Function asked = reader.functionAt(f);
            if (asked == null) {
                return false;
            }
            handed[0] = a;
            handed[1] = b;
            handed[2] = c;
            for (int i = 0; i < asked.columns; i++) {
                if (!mail.isOf(handed[i], asked.sorts[i])) {
                    return false;
                }
            }
            return true;
        }

        int run(int f, boolean byTrees) {
            Arrays.fill(report, 0);
            guardsKept = 0;
            firstCount = 0;
            int first = LetterPost.NONE;
            current = f;
            for (int begun = 1; begun <= MOST_BEGUN; begun++) {
                Function function = reader.functionAt(current);
                report[BEGUN] = begun;
                report[FUNCTION] = current;
                Rule rule = function == null ? null : byTrees ? byTree(function) : byRules(function);
                if (rule == null) {
                    return first;
                }
                if (begun == 1) {
                    first = rule.number;
                    keepBound(rule);
                }
                if (rule.answer != Rule.CALL) {
                    report[ANSWER] = rule.answer == Rule.NAME ? numberHeld(rule.answerWorth) : rule.answerWorth;
                    report[RULE] = rule.number;
                    return first;
                }
                handOver(rule);
            }
            end(SPENT, LetterPost.NONE);
            return first;
        }

        private void end(int outcome, int rule) {
            report[OUTCOME] = outcome;
            report[RULE] = rule;
        }

        private void keepBound(Rule rule) {
            firstCount = Math.min(rule.nameCount, firstBound.length);
            System.arraycopy(held, 0, firstBound, 0, held.length);
        }

        private void handOver(Rule rule) {
            for (int i = 0; i < rule.argCount && i < Rule.MOST_ARGS; i++) {
                handed[i] = heldAt(rule.args[i]);
            }
            current = rule.callee;
        }

        private int heldAt(int name) {
            return name >= 0 && name < held.length ? held[name] : LetterPost.NONE;
        }

        private int numberHeld(int name) {
            int v = heldAt(name);
            return mail.has(v) ? (int) mail.labels[v] : 0;
        }

        /** The rule that the tree comes to, or null with the outcome told. */
        private Rule byTree(Function function) {
            Tree tree = function.tree;
            int n = 0;
            for (int i = 0; i < Tree.MOST && tree.has(n); i++) {
                Row row = function.rowAt(tree.rows[n]);
                if (tree.whats[n] == Tree.NONE) {
                    break;
                }
                if (row == null) {
                    report[TESTS]++;
                    n = tree.follow(n, labelAt(function, tree.places[n]));
                    if (n < 0) {
                        end(LATE, LetterPost.NONE);
                        return null;
                    }
                } else {
                    holdRow(function, row);
                    if (guardLets(row.rule)) {
                        return row.rule;
                    }
                    if (threw) {
                        return null;
                    }
                    n++;
                }
            }
            end(NO_RULE, LetterPost.NONE);
            return null;
        }

        private void holdRow(Function function, Row row) {
            for (int i = 0; i < row.rule.nameCount && i < held.length; i++) {
                held[i] = valueAt(function, row.nameplaces[i], 0);
            }
        }

        private long labelAt(Function function, int place) {
            int v = valueAt(function, place, 0);
            return mail.has(v) ? mail.labels[v] : Kinds.NOTHING;
        }

        private int valueAt(Function function, int place, int depth) {
            int number = function.placeNumber(place);
            int up = function.placeUp(place);
            if (number < 0 || depth > Reader.DEEPEST) {
                return LetterPost.NONE;
            }
            if (up < 0) {
                return number < handed.length ? handed[number] : LetterPost.NONE;
            }
            return mail.part(valueAt(function, up, depth + 1), number);
        }

        /** The first rule that fits whole, or null with the outcome told. */
        private Rule byRules(Function function) {
            for (int r = 0; r < function.ruleCount; r++) {
                Rule rule = function.rules[r];
                if (patternsFit(rule)) {
                    if (guardLets(rule)) {
                        return rule;
                    }
                    if (threw) {
                        return null;
                    }
                }
            }
            end(NO_RULE, LetterPost.NONE);
            return null;
        }

        private boolean patternsFit(Rule rule) {
            int column = 0;
            for (Pattern p = rule.patterns; p != null && column < handed.length; p = p.next) {
                if (!fits(rule, p, handed[column], 0)) {
                    return false;
                }
                column++;
            }
            return true;
        }

        private boolean fits(Rule rule, Pattern p, int v, int depth) {
            if (depth > Reader.DEEPEST || !mail.has(v)) {
                return false;
            }
            hold(rule, p.name, v);
            hold(rule, p.asName, v);
            switch (p.what) {
                case Pattern.ANY:
                    return true;
                case Pattern.EITHER:
                    return anyFits(rule, p, v, depth + 1);
                default:
                    return kinds.holds(p, mail.labels[v]) && partsFit(rule, p, v, depth + 1);
            }
        }

        /** What an alternative that did not fit has bound does no harm: the one that fits binds the same names. */
        private boolean anyFits(Rule rule, Pattern either, int v, int depth) {
            for (Pattern p = either.first; p != null; p = p.next) {
                if (fits(rule, p, v, depth)) {
                    return true;
                }
            }
            return false;
        }

        private boolean partsFit(Rule rule, Pattern kind, int v, int depth) {
            int i = 0;
            for (Pattern p = kind.first; p != null; p = p.next) {
                if (!fits(rule, p, mail.part(v, i), depth)) {
                    return false;
                }
                i++;
            }
            return true;
        }

        private void hold(Rule rule, long name, int v) {
            int i = rule.nameNumber(name);
            if (i >= 0 && i < held.length) {
                held[i] = v;
            }
        }

        /** Whether a rule whose patterns fit has a true guard or none; a guard that throws tells the outcome. */
        private boolean guardLets(Rule rule) {
            threw = false;
            if (!rule.isGuarded()) {
                return true;
            }
            report[GUARDS]++;
            if (guardsKept < MOST_GUARDS) {
                guards[guardsKept] = 100 * current + rule.number;
                guardsKept++;
            }
            int left = sum(rule, 0);
            int right = threw ? 0 : sum(rule, 1);
            if (threw) {
                end(THREW, rule.number);
                return false;
            }
            switch (rule.compare) {
                case '<':
                    return left < right;
                case '=':
                    return left == right;
                default:
                    return left > right;
            }
        }

        private int sum(Rule rule, int side) {
            int left = term(rule, 2 * side);
            int right = rule.signs[side] == 0 ? 0 : term(rule, 2 * side + 1);
            switch (rule.signs[side]) {
                case '+':
                    return left + right;
                case '-':
                    return left - right;
                case '*':
                    return left * right;
                case '/':
                case '%':
                    return divided(left, right, rule.signs[side] == '/');
                default:
                    return left;
            }
        }

        private int divided(int left, int right, boolean whole) {
            if (right == 0) {
                threw = true;
                return 0;
            }
            return whole ? left / right : left % right;
        }

        private int term(Rule rule, int i) {
            return rule.termNames[i] < 0 ? rule.termNumbers[i] : numberHeld(rule.termNames[i]);
        }
    }

    /** Reads a text, or the line of a late kind, and judges it. */
    private static final class Reader {
        /** How many others a pattern can not be within. */
        static final int DEEPEST = 6;
        static final int NO_TOKEN = 1, CANT_STAND = 2, THERE_ALREADY = 3, NOT_THERE = 4, UNSUITED = 5;
        static final int COUNT = 6, TURNED = 7, NOT_THE_SAME = 8, MUCH = 9;
        private static final int MOST_FUNCTIONS = 12, MOST_ALTERNATIVES = 6;
        private static final int NO_NUMBER = Integer.MIN_VALUE;

        private final Tokens tokens;
        private final Kinds kinds;
        private final Function[] functions = new Function[MOST_FUNCTIONS];
        int functionCount;
        int fault;
        int faultSpot;
        private Function function;
        private Rule rule;

        Reader(Tokens tokens, Kinds kinds) {
            this.tokens = tokens;
            this.kinds = kinds;
        }

        Function functionAt(int f) {
            return f >= 0 && f < functionCount ? functions[f] : null;
        }

        void forgetText() {
            functionCount = 0;
            kinds.size = 0;
        }

        boolean readText() {
            begin();
            boolean sound = true;
            for (int i = 0; i <= Kinds.MOST && sound && tokens.type == Tokens.KIND; i++) {
                sound = readKind(false);
            }
            for (int i = 0; i <= MOST_FUNCTIONS && sound && tokens.type == Tokens.SORT; i++) {
                sound = readHead() && readRules();
            }
            return sound && expect(Tokens.END) && checkCalls() && layRows();
        }

        boolean readLateKind() {
            begin();
            return tokens.type == Tokens.KIND
                ? readKind(true) && expect(Tokens.END)
                : failHere(CANT_STAND);
        }

        private void begin() {
            tokens.cut();
            fault = 0;
            faultSpot = 0;
        }

        private boolean failAt(int code, int spot) {
            fault = code;
            faultSpot = spot;
            return false;
        }

        private boolean failHere(int code) {
            fault = tokens.type == Tokens.WRONG ? NO_TOKEN : code;
            faultSpot = tokens.spot;
            return false;
        }

        private boolean expect(int type) {
            if (tokens.type != type) {
                return failHere(CANT_STAND);
            }
            tokens.step();
            return true;
        }

        private boolean readKind(boolean late) {
            tokens.step();
            if (tokens.type != Tokens.KINDNAME) {
                return failHere(CANT_STAND);
            }
            if (kinds.find(tokens.worth) >= 0) {
                return failHere(THERE_ALREADY);
            }
            int k = kinds.begin(tokens.worth);
            if (k < 0) {
                return failHere(MUCH);
            }
            tokens.step();
            if (tokens.type == Tokens.UNDER) {
                if (!readUnder(k, late)) {
                    return false;
                }
            } else if (late) {
                return failHere(CANT_STAND);
            }
            return (tokens.type != '(' || readParts(k)) && expect(';');
        }

        private boolean readUnder(int k, boolean late) {
            tokens.step();
            if (tokens.type != Tokens.KINDNAME) {
                return failHere(CANT_STAND);
            }
            int upper = kinds.find(tokens.worth);
            if (upper < 0 || upper == k) {
                return failHere(NOT_THERE);
            }
            if (kinds.partCount(upper) > 0 || late && !kinds.isSealed(upper)) {
                return failHere(UNSUITED);
            }
            kinds.putUnder(k, upper);
            tokens.step();
            return true;
        }

        private boolean readParts(int k) {
            for (int i = 0; i <= Kinds.MOST_PARTS && (i == 0 || tokens.type == ','); i++) {
                tokens.step();
                int sort = sortHere();
                if (sort < 0) {
                    return false;
                }
                if (i == Kinds.MOST_PARTS) {
                    return failHere(MUCH);
                }
                kinds.addPart(k, sort);
                tokens.step();
            }
            return expect(')');
        }

        /** The sort that this token tells, or -1 with its fault. */
        private int sortHere() {
            switch (tokens.type) {
                case Tokens.WHOLE:
                    return Kinds.WHOLE;
                case Tokens.TRUTH:
                    return Kinds.TRUTH;
                case Tokens.TEXTS:
                    return Kinds.TEXT;
                case Tokens.KINDNAME:
                    int k = kinds.find(tokens.worth);
                    if (k >= 0) {
                        return Kinds.FIRST + k;
                    }
                    failHere(NOT_THERE);
                    return -1;
                default:
                    failHere(CANT_STAND);
                    return -1;
            }
        }

        private int findFunction(long name) {
            for (int f = 0; f < functionCount; f++) {
                if (functions[f].name == name) {
                    return f;
                }
            }
            return -1;
        }

        /** A function ahead of its rules. */
        private boolean readHead() {
            tokens.step();
            if (tokens.type != Tokens.NAME) {
                return failHere(CANT_STAND);
            }
            if (findFunction(tokens.worth) >= 0) {
                return failHere(THERE_ALREADY);
            }
            if (functionCount >= MOST_FUNCTIONS) {
                return failHere(MUCH);
            }
            function = new Function(tokens.worth);
            functions[functionCount] = function;
            functionCount++;
            tokens.step();
            return readColumns() && expect('{');
        }

        private boolean readColumns() {
            if (tokens.type != '(') {
                return failHere(CANT_STAND);
            }
            for (int i = 0; i <= Function.MOST_COLUMNS && (i == 0 || tokens.type == ','); i++) {
                tokens.step();
                int sort = sortHere();
                if (sort < 0) {
                    return false;
                }
                if (i == Function.MOST_COLUMNS) {
                    return failHere(MUCH);
                }
                function.addColumn(sort);
                tokens.step();
            }
            return expect(')');
        }

        private boolean readRules() {
            for (int r = 0; r <= Function.MOST_RULES && tokens.type != '}'; r++) {
                rule = new Rule(r, tokens.spot);
                if (!readPatterns(r == Function.MOST_RULES)) {
                    return false;
                }
                if (tokens.type == Tokens.IF && !readGuard()) {
                    return false;
                }
                if (!expect(':') || !readAnswer() || !expect(';')) {
                    return false;
                }
                function.addRule(rule);
            }
            return expect('}');
        }

        private boolean readPatterns(boolean much) {
            Pattern last = null;
            for (int c = 0; c < function.columns; c++) {
                if (c > 0 && !readComma()) {
                    return false;
                }
                Pattern p = readPattern(function.sorts[c], c, 0, much && c == 0);
                if (p == null) {
                    return false;
                }
                if (last == null) {
                    rule.patterns = p;
                } else {
                    last.next = p;
                }
                last = p;
            }
            rule.ways = Pattern.chainWays(rule.patterns);
            return tokens.type != ',' || failHere(COUNT);
        }

        private boolean readComma() {
            if (tokens.type != ',') {
                return failHere(COUNT);
            }
            tokens.step();
            return true;
        }

        /** A pattern for a sort at a place, or null with its fault; much: no pattern may be here any more. */
        private Pattern readPattern(int sort, int place, int depth, boolean much) {
            int code = firstFault(sort);
            if (code == 0 && (much || depth >= DEEPEST)) {
                code = isTurnedRange() ? TURNED : MUCH;
            }
            if (code != 0) {
                failHere(code);
                return null;
            }
            Pattern p = new Pattern(sort, place);
            boolean sound;
            switch (tokens.type) {
                case Tokens.NAME:
                    p.name = tokens.worth;
                    sound = readName(sort);
                    break;
                case Tokens.NUMBER:
                case '-':
                    sound = readRange(p);
                    break;
                case Tokens.KINDNAME:
                    sound = readKindPattern(p, depth);
                    break;
                case '(':
                    sound = readAlternatives(p, depth);
                    break;
                default:
                    sound = readConstant(p);
                    break;
            }
            if (sound && tokens.type == Tokens.AS) {
                tokens.step();
                p.asName = tokens.worth;
                sound = readName(sort);
            }
            return sound ? p : null;
        }

        /** The fault of a pattern's first token for a sort, by what it is alone; 0 if it has none. */
        private int firstFault(int sort) {
            switch (tokens.type) {
                case '_':
                case '(':
                    return 0;
                case Tokens.NAME:
                    return rule.nameFault(tokens.worth);
                case Tokens.NUMBER:
                case '-':
                    return sort == Kinds.WHOLE ? 0 : UNSUITED;
                case Tokens.TRUE:
                case Tokens.FALSE:
                    return sort == Kinds.TRUTH ? 0 : UNSUITED;
                case Tokens.TEXT:
                    return sort == Kinds.TEXT ? 0 : UNSUITED;
                case Tokens.NONE:
                    return sort >= Kinds.FIRST ? 0 : UNSUITED;
                case Tokens.KINDNAME:
                    int k = kinds.find(tokens.worth);
                    return k < 0 ? NOT_THERE : kinds.canStand(k, sort) ? 0 : UNSUITED;
                default:
                    return CANT_STAND;
            }
        }

        /** Whether a range begins here whose first number is above its second. */
        private boolean isTurnedRange() {
            int minus = tokens.type == '-' ? 1 : 0;
            boolean range = tokens.typeBehind(minus) == Tokens.NUMBER && tokens.typeBehind(minus + 1) == Tokens.DOTS;
            int second = minus + 2;
            int minusToo = tokens.typeBehind(second) == '-' ? 1 : 0;
            if (!range || tokens.typeBehind(second + minusToo) != Tokens.NUMBER) {
                return false;
            }
            long low = tokens.worthBehind(minus) * (1 - 2 * minus);
            long high = tokens.worthBehind(second + minusToo) * (1 - 2 * minusToo);
            return low > high;
        }

        private boolean readConstant(Pattern p) {
            switch (tokens.type) {
                case Tokens.TRUE:
                    p.want(1, 1);
                    break;
                case Tokens.FALSE:
                    p.want(0, 0);
                    break;
                case Tokens.TEXT:
                    p.want(tokens.worth, tokens.worth);
                    break;
                case Tokens.NONE:
                    p.want(Kinds.NOTHING, Kinds.NOTHING);
                    break;
                default:
                    break;
            }
            tokens.step();
            return true;
        }

        private boolean readName(int sort) {
            if (tokens.type != Tokens.NAME) {
                return failHere(CANT_STAND);
            }
            int code = rule.nameFault(tokens.worth);
            if (code != 0) {
                return failHere(code);
            }
            rule.hold(tokens.worth, sort);
            tokens.step();
            return true;
        }

        private boolean readRange(Pattern p) {
            int spot = tokens.spot;
            int low = readNumber();
            if (low == NO_NUMBER) {
                return false;
            }
            int high = low;
            if (tokens.type == Tokens.DOTS) {
                tokens.step();
                high = readNumber();
                if (high == NO_NUMBER) {
                    return false;
                }
            }
            p.want(low, high);
            return low <= high || failAt(TURNED, spot);
        }

        /** A number with its sign, or NO_NUMBER with the fault; nine figures never come near it. */
        private int readNumber() {
            boolean below = tokens.type == '-';
            if (below) {
                tokens.step();
            }
            if (tokens.type != Tokens.NUMBER) {
                failHere(CANT_STAND);
                return NO_NUMBER;
            }
            int number = (int) tokens.worth;
            tokens.step();
            return below ? -number : number;
        }

        private boolean readKindPattern(Pattern p, int depth) {
            int k = kinds.find(tokens.worth);
            p.wantKind(k);
            tokens.step();
            if (tokens.type != '(') {
                return true;
            }
            int count = kinds.partCount(k);
            if (count == 0) {
                return failHere(COUNT);
            }
            tokens.step();
            Pattern last = null;
            for (int i = 0; i < count; i++) {
                if (i > 0 && !readComma()) {
                    return false;
                }
                Pattern part = readPattern(kinds.partSort(k, i), function.placeIn(p.place, i), depth + 1, false);
                if (part == null) {
                    return false;
                }
                last = p.hang(part, last);
            }
            p.ways = Pattern.chainWays(p.first);
            return tokens.type == ',' ? failHere(COUNT) : expect(')');
        }

        private boolean readAlternatives(Pattern p, int depth) {
            int spot = tokens.spot;
            long ahead = rule.bindings;
            long wanted = ahead;
            boolean same = true;
            Pattern last = null;
            p.what = Pattern.EITHER;
            p.ways = 0;
            for (int i = 0; i <= MOST_ALTERNATIVES && (i == 0 || tokens.type == '|'); i++) {
                tokens.step();
                rule.bindings = ahead;
                Pattern one = readPattern(p.sort, p.place, depth + 1, i == MOST_ALTERNATIVES);
                if (one == null) {
                    return false;
                }
                wanted = i == 0 ? rule.bindings : wanted;
                same = same && rule.bindings == wanted;
                last = p.hang(one, last);
                p.ways = Math.min(Pattern.MANY_WAYS, p.ways + one.ways);
            }
            return expect(')') && (same || failAt(NOT_THE_SAME, spot));
        }

        private boolean readGuard() {
            tokens.step();
            if (!readSum(0)) {
                return false;
            }
            int sign = tokens.type;
            if (sign != '<' && sign != '=' && sign != '>') {
                return failHere(CANT_STAND);
            }
            rule.compare = sign;
            tokens.step();
            return readSum(1);
        }

        private boolean readSum(int side) {
            if (!readTerm(2 * side)) {
                return false;
            }
            int sign = tokens.type;
            if (sign != '+' && sign != '-' && sign != '*' && sign != '/' && sign != '%') {
                return true;
            }
            rule.signs[side] = sign;
            tokens.step();
            return readTerm(2 * side + 1);
        }

        private boolean readTerm(int i) {
            rule.termNames[i] = -1;
            if (tokens.type == Tokens.NAME) {
                rule.termNames[i] = readWholeName();
                return rule.termNames[i] >= 0;
            }
            rule.termNumbers[i] = readNumber();
            return rule.termNumbers[i] != NO_NUMBER;
        }

        /** The number of a bound name that is a WHOLE, or -1 with the fault. */
        private int readWholeName() {
            int name = rule.nameNumber(tokens.worth);
            if (name < 0) {
                failHere(NOT_THERE);
                return -1;
            }
            if (rule.nameSort(name) != Kinds.WHOLE) {
                failHere(UNSUITED);
                return -1;
            }
            tokens.step();
            return name;
        }

        private boolean readAnswer() {
            if (tokens.type != Tokens.NAME) {
                rule.answerWorth = readNumber();
                return rule.answerWorth != NO_NUMBER;
            }
            if (tokens.typeBehind(1) == '(') {
                return readCall();
            }
            rule.answer = Rule.NAME;
            rule.answerWorth = readWholeName();
            return rule.answerWorth >= 0;
        }

        private boolean readCall() {
            rule.answer = Rule.CALL;
            rule.callName = tokens.worth;
            rule.callSpot = tokens.spot;
            tokens.step();
            for (int i = 0; i <= Tokens.TAPE && (i == 0 || tokens.type == ','); i++) {
                tokens.step();
                if (tokens.type != Tokens.NAME) {
                    return failHere(CANT_STAND);
                }
                int name = rule.nameNumber(tokens.worth);
                if (name < 0) {
                    return failHere(NOT_THERE);
                }
                rule.addArg(name, tokens.spot);
                tokens.step();
            }
            return expect(')');
        }

        /** A function may be called ahead of its place, so calls are judged when all functions are there. */
        private boolean checkCalls() {
            for (int f = 0; f < functionCount; f++) {
                for (int r = 0; r < functions[f].ruleCount; r++) {
                    Rule caller = functions[f].rules[r];
                    if (caller.answer == Rule.CALL && !checkCall(caller)) {
                        return false;
                    }
                }
            }
            return true;
        }

        private boolean checkCall(Rule caller) {
            caller.callee = findFunction(caller.callName);
            Function called = functionAt(caller.callee);
            if (called == null) {
                return failAt(NOT_THERE, caller.callSpot);
            }
            if (called.columns != caller.argCount) {
                return failAt(COUNT, caller.callSpot);
            }
            for (int i = 0; i < called.columns; i++) {
                if (!kinds.suits(caller.nameSort(caller.args[i]), called.sorts[i])) {
                    return failAt(UNSUITED, caller.argSpots[i]);
                }
            }
            return true;
        }

        private boolean layRows() {
            for (int f = 0; f < functionCount; f++) {
                Rule over = functions[f].firstWithTooManyRows();
                if (over != null) {
                    return failAt(MUCH, over.spot);
                }
            }
            for (int f = 0; f < functionCount; f++) {
                functions[f].layRows();
            }
            return true;
        }
    }
}
