/**
 * The document's Terms, parts 2 and 3, and its promises, by the sentences that name a boundary: the last case that is
 * still taken, the first that is refused, that a refused call changes nothing, and which answer comes first.
 */
public final class BoundaryTest {
    private static final int BAD = LetterPost.BAD;
    private static final int NO = LetterPost.NO;
    private static final int FULL = LetterPost.FULL;
    private static final int NONE = LetterPost.NONE;
    private static final int LEAST = Integer.MIN_VALUE;
    private static final int GREATEST = Integer.MAX_VALUE;
    private static int wrong = 0;
    private static String sentence = "";

    interface Build {
        LetterPost make();
    }

    interface Call {
        int on(LetterPost x);
    }

    /** The sentence of the document that the cases behind this test. */
    private static void says(String words) {
        sentence = words;
    }

    private static void due(String call, long got, long want) {
        if (got != want) {
            wrong++;
            System.out.println("'" + sentence + "': " + call + " answered " + got + ", due is " + want);
        }
    }

    private static void dueText(String what, String got, String want) {
        if (!got.equals(want)) {
            wrong++;
            System.out.println("'" + sentence + "': " + what + " is " + got + ", due is " + want);
        }
    }

    private static long packed(String s) {
        long w = 0;
        for (int i = 0; i < s.length(); i++) {
            w = w << 8 | s.charAt(i);
        }
        return w;
    }

    private static void feedAll(LetterPost x, String text) {
        for (int i = 0; i < text.length(); i += 8) {
            int end = Math.min(i + 8, text.length());
            x.feed(packed(text.substring(i, end)), end - i);
        }
    }

    private static LetterPost read(int functions, String text) {
        LetterPost x = new LetterPost();
        feedAll(x, text);
        due("read " + text, x.read(), functions);
        return x;
    }

    private static int late(LetterPost x, String text) {
        feedAll(x, text);
        return x.add();
    }

    private static String many(String first, String one, int n, String last) {
        StringBuilder all = new StringBuilder(first);
        for (int i = 0; i < n; i++) {
            all.append(one.replace("#", String.valueOf(i)));
        }
        return all.append(last).toString();
    }

    private static void dueTold(LetterPost x, int... want) {
        for (int i = 0; i < want.length; i++) {
            due("told " + i, x.told(i), want[i]);
        }
    }

    /** What a tree is, node by node: N none, A1 answer of rule 1, G2 guard, K1.0 test of a KIND one deep, at PART 0. */
    private static String tree(LetterPost x, int f) {
        StringBuilder s = new StringBuilder();
        int nodes = x.function(f, 3);
        for (int n = 0; n < nodes; n++) {
            int what = x.node(f, n, 0);
            int branches = x.node(f, n, 2);
            s.append(n == 0 ? "" : " ").append("NAGKBTW".charAt(what));
            s.append(what == 0 ? "" : what < 3 ? String.valueOf(x.node(f, n, 1)) : x.node(f, n, 3) + "." + x.node(f, n, 4));
            for (int i = 0; i < branches; i++) {
                s.append(i == 0 ? "[" : ",").append(x.branch(f, n, i));
            }
            s.append(branches > 0 ? "]" : "");
        }
        return s.toString();
    }

    private static void dueTree(String want, LetterPost x, int f) {
        dueText("the tree", tree(x, f), want);
    }

    private static void dueTree(String want, int way, String text) {
        LetterPost x = read(1, text);
        if (way != 0) {
            x.remake(0, way);
        }
        dueText("the tree by " + way + " of " + text, tree(x, 0), want);
    }

    /** By the trees of all four ways, and by trying rule after rule, the same rule and answer come. */
    private static void dueRule(LetterPost x, int rule, int outcome, int answer, int... letters) {
        int a = letters[0];
        int b = letters.length > 1 ? letters[1] : LEAST;
        int c = letters.length > 2 ? letters[2] : GREATEST;
        for (int way = 3; way >= -1; way--) {
            if (way >= 0) {
                x.remake(0, way);
            }
            String by = way < 0 ? "plain" : "sort by " + way;
            due(by, way < 0 ? x.plain(0, a, b, c) : x.sort(0, a, b, c), rule);
            due(by + " OUTCOME", x.told(0), outcome);
            due(by + " ANSWER", x.told(1), answer);
        }
    }

    // ---- 1: the tape and the text ----

    private static void tape() {
        says("The n lowest bytes of w, the highest first, come behind THE TAPE: how many it has");
        String text = "kind Abc;kind Bcd under Abc;";
        for (int n = 1; n <= 8; n++) {
            LetterPost x = new LetterPost();
            for (int i = 0; i < text.length(); i += n) {
                int end = Math.min(i + n, text.length());
                long above = end - i == 8 ? 0 : 0x2323232323232323L << (8 * (end - i));
                due("feed of " + n, x.feed(packed(text.substring(i, end)) | above, end - i), end);
            }
            due("read", x.read(), 0);
            due("under", x.kind(x.kindNamed(packed("Bcd")), 0), x.kindNamed(packed("Abc")));
        }
        LetterPost high = new LetterPost();
        due("bytes above 127", high.feed(-1L, 8), 8);
        due("read", high.read(), -10);
        says("feed: BAD: n is not 1 .. 8");
        int[] bad = {0, 9, -1, -8, 16, 257, 264, LEAST, GREATEST};
        LetterPost y = new LetterPost();
        y.feed(32, 1);
        for (int n : bad) {
            due("feed of " + n, y.feed(32, n), BAD);
            due("tape", y.count(3), 1);
        }
        says("THE TAPE has up to 1600 bytes; feed: FULL");
        for (int length = 1592; length <= 1600; length++) {
            LetterPost x = new LetterPost();
            feedAll(x, many("", " ", length, ""));
            for (int n = 8; n > 1600 - length && n > 0; n--) {
                due("feed of " + n + " behind " + length, x.feed(packed(";;;;;;;;"), n), FULL);
                due("tape", x.count(3), length);
            }
            due("BAD ahead of FULL", x.feed(0, 9), BAD);
            if (length < 1600) {
                due("feed behind " + length, x.feed(packed("       ;"), 1600 - length), 1600);
            }
            due("one more", x.feed(59, 1), FULL);
            due("read", x.read(), length < 1600 ? -10 - 1599 : 0);
            due("tape", x.count(3), 0);
            due("feed again", x.feed(32, 8), 8);
        }
    }

    private static final String LARGE = many("sort f(whole){", "(1#0|1#2|1#4|1#6|1#8|2#0)if 1<2:1;", 6, "(9990|9992|9994|9996)if 1<2:1;}");

    private static void text() {
        says("read: THE TAPE is a text: how many functions it has");
        due("0 functions", read(0, "").count(1), 0);
        due("0 functions", read(0, "kind A;").count(1), 0);
        due("12 functions", read(12, many("", "sort f#(whole){}", 12, "")).count(1), 12);
        says("read: NO: a text was read");
        String[] texts = {"", " ", "kind A;", "sort f(whole){}"};
        for (String text : texts) {
            LetterPost x = read(text.startsWith("sort") ? 1 : 0, text);
            due("read", x.read(), NO);
            feedAll(x, "#");
            due("read of a FAULT", x.read(), NO);
            due("tape", x.count(3), 1);
            due("fault", x.fault(), 0);
            due("add of that", x.add(), -10);
            due("fault of add", x.fault(), 1);
            due("read", x.read(), NO);
            due("fault behind NO", x.fault(), 1);
        }
        says("read: FULL: THE TREE of a function would have more than 120 nodes");
        LetterPost y = new LetterPost();
        feedAll(y, "kind A;kind A");
        due("read", y.read(), -22);
        due("fault", y.fault(), 3);
        feedAll(y, "kind A;sort g(A){_:1;}" + LARGE);
        due("the second is too large", y.read(), FULL);
        says("(Behind NO, a FAULT, FULL there is no text as ahead of it; THE TAPE is used up but by NO.)");
        due("fault of FULL", y.fault(), 0);
        int[] none = {0, 0, 0, 0, 0};
        for (int i = 0; i < none.length; i++) {
            due("count " + i, y.count(i), none[i]);
        }
        due("add", y.add(), NO);
        due("function", y.function(0, 0), BAD);
        due("kind", y.kind(0, 0), BAD);
        due("kindNamed", y.kindNamed('A'), NONE);
        due("make", y.make(0, 0, 0, 0, 0), BAD);
        due("remake", y.remake(0, 0), BAD);
        feedAll(y, "kind A(whole);kind B;kind C under B;kind D(Z");
        due("a FAULT", y.read(), -10 - 43);
        due("kinds", y.count(0), 0);
        due("kindNamed", y.kindNamed('A'), NONE);
        due("add", y.add(), NO);
        feedAll(y, "kind B;kind A;sort f(A){A:1;}");
        due("a text behind these", y.read(), 1);
        due("SEALED no more", y.kind(0, 1), 0);
        due("no PARTS any more", y.kind(1, 2), 0);
        due("under none any more", y.kind(1, 0), NONE);
        due("A", y.kindNamed('A'), 1);
        due("tree", y.function(0, 3), 3);
    }

    private static void faults() {
        says("The FAULT of the latest read(), add(): 1 to 9; 0: it had none, or none was asked yet");
        LetterPost x = new LetterPost();
        due("none was asked", x.fault(), 0);
        due("add, NO", x.add(), NO);
        due("fault", x.fault(), 0);
        String[] texts = {"#", ";", "kind A;kind A;", "kind A(B);", "sort f(text){1:1;}", "sort f(whole){1,", "sort f(whole){2..1:1;}",
            "sort f(whole){(a|1):1;}", "sort f(whole,text,text,text){}"};
        int[] places = {0, 0, 12, 7, 13, 15, 14, 14, 23};
        for (int i = 0; i < texts.length; i++) {
            feedAll(x, texts[i]);
            due("fault ahead of reading", x.fault(), i);
            due("read " + texts[i], x.read(), -10 - places[i]);
            due("fault of " + texts[i], x.fault(), i + 1);
            due("add, NO", x.add(), NO);
            due("fault behind NO", x.fault(), i + 1);
        }
        feedAll(x, "kind A;kind B under A;");
        due("read", x.read(), 0);
        due("it had none", x.fault(), 0);
        due("add", late(x, "kind C;"), -16);
        due("fault of add", x.fault(), 2);
        due("add", late(x, "kind C under A;"), 2);
        due("it had none", x.fault(), 0);
    }

    private static void lateKinds() {
        says("add: NO: no text was read");
        LetterPost x = new LetterPost();
        feedAll(x, "kind C under A;");
        due("new", x.add(), NO);
        due("tape", x.count(3), 15);
        due("read", x.read(), -23);
        due("behind a FAULT", x.add(), NO);
        feedAll(x, "#");
        due("NO ahead of a FAULT", x.add(), NO);
        due("tape", x.count(3), 1);
        due("fault stays", x.fault(), 4);
        x.read();
        feedAll(x, "kind A;kind B under A;");
        due("read", x.read(), 0);
        due("with a text", late(x, "kind C under A;"), 2);
        says("add: a LATE KIND: its number");
        for (int i = 3; i < 24; i++) {
            due("add", late(x, "kind D" + i + " under A(whole);"), i);
            due("under", x.kind(i, 0), 0);
            due("PARTS", x.kind(i, 2), 1);
        }
        due("the 25th", late(x, "kind E under A;"), -15);
        due("fault", x.fault(), 9);
        due("kinds", x.count(0), 24);
        due("LATE KINDS", x.count(4), 22);
        due("no E", x.kindNamed('E'), NONE);
        says("It must come under a KIND that is SEALED (else FAULT 5, at that)");
        LetterPost y = read(0, "kind A;kind B under A;kind C under B;kind D;kind E(whole);");
        String[] uppers = {"A", "B", "C", "D", "E", "F", "G"};
        int[] want = {5, 6, -23, -23, -23, -23, -23};
        for (int i = 0; i < uppers.length; i++) {
            due("under " + uppers[i], late(y, "kind " + (char) ('F' + i) + " under " + uppers[i] + ";"), want[i]);
            due("fault", y.fault(), want[i] < 0 ? 5 : 0);
        }
    }

    // ---- refused, and nothing changes ----

    /** What can be asked, in groups, so that an object has no more than 512 calls. */
    private static String seen(LetterPost x, int group) {
        StringBuilder s = new StringBuilder();
        if (group == 0) {
            s.append(x.fault()).append(' ').append(x.kindNamed('A')).append(x.kindNamed('B')).append(x.kindNamed('Z'));
            for (int i = 0; i < 34; i++) {
                s.append(' ').append(x.told(i % 7)).append(x.guard(i)).append(x.bound(i % 9)).append(x.count(i % 5));
            }
            for (int k = 0; k < 7; k++) {
                for (int what = 0; what < 8; what++) {
                    s.append(' ').append(x.kind(k, what));
                }
            }
            for (int v = 0; v < 10; v++) {
                for (int what = 0; what < 7; what++) {
                    s.append(' ').append(x.value(v, what));
                }
            }
        } else if (group == 1) {
            for (int f = 0; f < 2; f++) {
                for (int what = 0; what < 9; what++) {
                    s.append(' ').append(x.function(f, what));
                }
                for (int n = 0; n < x.function(f, 3); n++) {
                    s.append(' ').append(x.node(f, n, 0)).append(x.node(f, n, 1));
                }
            }
        } else if (group == 2) {
            for (int f = 0; f < 2; f++) {
                for (int n = 0; n < x.function(f, 3); n++) {
                    int branches = x.node(f, n, 2);
                    s.append(' ').append(branches > 0 ? x.node(f, n, 3) * 100 + x.node(f, n, 4) : NONE);
                    for (int i = 0; i < branches; i++) {
                        s.append(',').append(x.branch(f, n, i));
                    }
                }
            }
        } else {
            seenLater(x, s);
        }
        return s.toString();
    }

    /** What calls that change something answer behind it. */
    private static void seenLater(LetterPost x, StringBuilder s) {
        for (int f = 0; f < 2; f++) {
            for (int v = 0; v < 8; v++) {
                s.append(' ').append(x.sort(f, v, v, v)).append(x.told(0)).append(x.told(1)).append(x.bound(0));
                s.append(' ').append(x.plain(f, v, v, v)).append(x.told(0)).append(x.told(1)).append(x.bound(0));
            }
            s.append(' ').append(x.missing(f)).append(x.unreached(f, 0)).append(x.unreached(f, 1));
        }
        s.append(' ').append(x.whole(3)).append(x.truth(3)).append(x.letters(97)).append(x.nothing()).append(x.make(1, 0, 1, 2, 3));
        s.append(' ').append(x.feed(packed(" kind Z "), 8)).append(x.feed(packed("under A;"), 8));
        s.append(' ').append(x.add()).append(x.fault()).append(x.read()).append(x.fault());
        for (int way = 0; way < 4; way++) {
            s.append(' ').append(x.remake(0, way)).append(x.remake(1, 3 - way));
        }
    }

    private static void refused(String call, int want, Build build, Call refused) {
        for (int group = 0; group < 4; group++) {
            LetterPost x = build.make();
            due(call, refused.on(x), want);
            dueText("what is told in group " + group + " behind " + call, seen(x, group), seen(build.make(), group));
        }
    }

    private static LetterPost afterFault() {
        LetterPost x = new LetterPost();
        x.whole(7);
        feedAll(x, "kind A;kind A;");
        x.read();
        feedAll(x, "kind B;");
        return x;
    }

    /** A text, letters, a LATE KIND, a latest FAULT, a latest sorting, and bytes on the tape. */
    private static LetterPost atWork() {
        LetterPost x = new LetterPost();
        feedAll(x, "kind A;kind B under A(whole,A);kind C under A;sort f(A,whole){B(n,a),m if n<m:g(a,n);C,1..9:2;_,n if n/1=0:n;}"
            + "sort g(A,whole){a,n if n=5:5;none,_:6;}");
        x.read();
        x.whole(5);
        x.nothing();
        x.make(2, 0, 0, 0, 0);
        x.make(1, 0, 2, 0, 0);
        x.whole(6);
        late(x, "kind D under A;");
        x.make(3, 0, 0, 0, 0);
        x.truth(1);
        x.remake(1, 3);
        late(x, "kind E under B;");
        x.sort(0, 3, 4, 0);
        feedAll(x, "kind Q under A;");
        return x;
    }

    private static LetterPost fullOfLetters() {
        LetterPost x = atWork();
        for (int i = 7; i < 160; i++) {
            x.whole(i);
        }
        return x;
    }

    private static LetterPost fullOfNodes() {
        LetterPost x = read(1, edgeText(38, 1, 0));
        x.nothing();
        addLeaves(x, 18);
        x.remake(0, 0);
        late(x, "kind Z under A;");
        return x;
    }

    private static void refusedCalls() {
        says("Refused, and nothing changes: BAD (no such function, value, KIND; a number that is none told)");
        Build[] states = {LetterPost::new, BoundaryTest::afterFault, BoundaryTest::atWork};
        for (Build state : states) {
            refused("feed of 0", BAD, state, x -> x.feed(97, 0));
            refused("feed of 9", BAD, state, x -> x.feed(97, 9));
            refused("remake", BAD, state, x -> x.remake(2, 0));
            refused("remake", BAD, state, x -> x.remake(-1, 0));
            refused("remake", BAD, state, x -> x.remake(0, 4));
            refused("remake", BAD, state, x -> x.remake(0, -1));
            refused("kind", BAD, state, x -> x.kind(4, 0));
            refused("kind", BAD, state, x -> x.kind(0, 8));
            refused("function", BAD, state, x -> x.function(2, 0));
            refused("function", BAD, state, x -> x.function(0, 9));
            refused("node", BAD, state, x -> x.node(0, 120, 0));
            refused("node", BAD, state, x -> x.node(0, 0, 5));
            refused("branch", BAD, state, x -> x.branch(0, 0, 99));
            refused("missing", BAD, state, x -> x.missing(2));
            refused("unreached", BAD, state, x -> x.unreached(0, 3));
            refused("letters", BAD, state, x -> x.letters(packed("aB")));
            refused("make", BAD, state, x -> x.make(4, 0, 0, 0, 0));
            refused("make", BAD, state, x -> x.make(0, 0, 0, 0, 0));
            refused("make", BAD, state, x -> x.make(1, 0, 0, 0, 0));
            refused("make", BAD, state, x -> x.make(1, 0, 99, 0, 0));
            refused("alike", BAD, state, x -> x.alike(0, 99));
            refused("sort", BAD, state, x -> x.sort(0, 0, 0, 0));
            refused("sort", BAD, state, x -> x.sort(2, 1, 0, 0));
            refused("sort", BAD, state, x -> x.sort(0, 1, 99, 0));
            refused("plain", BAD, state, x -> x.plain(0, 1, 5, 0));
            refused("plain", BAD, state, x -> x.plain(-1, 1, 0, 0));
            refused("told", BAD, state, x -> x.told(7));
            refused("count", BAD, state, x -> x.count(5));
            refused("value", NONE, state, x -> x.value(99, 0));
        }
        says("Refused, and nothing changes: NO (not as things stand)");
        refused("add", NO, LetterPost::new, x -> x.add());
        refused("add", NO, BoundaryTest::afterFault, x -> x.add());
        refused("read", NO, BoundaryTest::atWork, x -> x.read());
        says("Refused, and nothing changes: FULL");
        refused("whole", FULL, BoundaryTest::fullOfLetters, x -> x.whole(1));
        refused("truth", FULL, BoundaryTest::fullOfLetters, x -> x.truth(1));
        refused("letters", FULL, BoundaryTest::fullOfLetters, x -> x.letters(97));
        refused("nothing", FULL, BoundaryTest::fullOfLetters, x -> x.nothing());
        refused("make", FULL, BoundaryTest::fullOfLetters, x -> x.make(2, 0, 0, 0, 0));
        refused("remake", FULL, BoundaryTest::fullOfNodes, x -> x.remake(0, 0));
        refused("remake", FULL, BoundaryTest::fullOfNodes, x -> x.remake(0, 3));
        refused("missing", FULL, BoundaryTest::fullOfNodes, x -> x.missing(0));
        refused("unreached", FULL, BoundaryTest::fullOfNodes, x -> x.unreached(0, 0));
        says("Refused, and nothing changes: BAD .., NO .., FULL; of several the first");
        refused("letters", BAD, BoundaryTest::fullOfLetters, x -> x.letters(96));
        refused("make of no LEAF", BAD, BoundaryTest::fullOfLetters, x -> x.make(0, 0, 0, 0, 0));
        refused("make of no KIND", BAD, BoundaryTest::fullOfLetters, x -> x.make(4, 0, 0, 0, 0));
        refused("make of another SORT", BAD, BoundaryTest::fullOfLetters, x -> x.make(1, 0, 0, 0, 0));
        refused("make of no value", BAD, BoundaryTest::fullOfLetters, x -> x.make(1, 0, 160, 0, 0));
        refused("remake by 4", BAD, BoundaryTest::fullOfNodes, x -> x.remake(0, 4));
        refused("unreached of no rule", BAD, BoundaryTest::fullOfNodes, x -> x.unreached(0, 7));
        says("What is only asked changes nothing");
        refused("missing", 1, BoundaryTest::atWork, x -> x.missing(1));
        refused("unreached", 0, BoundaryTest::atWork, x -> x.unreached(1, 1));
        refused("alike", 0, BoundaryTest::atWork, x -> x.alike(0, 1));
    }

    // ---- what was told ----

    private static void kinds() {
        says("A KIND with others UNDER it (under it, or under one that is UNDER it) is SEALED; one that is not SEALED is a LEAF");
        LetterPost chain = read(1, "kind K;kind L under K;kind M under L;kind N(whole);sort f(K){M:1;L:2;K:3;}");
        int[] sealed = {1, 1, 0, 0};
        for (int k = 0; k < 4; k++) {
            due("SEALED " + k, chain.kind(k, 1), sealed[k]);
        }
        StringBuilder deep = new StringBuilder("kind K0;");
        for (int k = 1; k < 24; k++) {
            deep.append("kind K").append(k).append(" under K").append(k - 1).append(";");
        }
        LetterPost x = read(2, deep + "sort f(K0){K23:1;K0:2;_:3;}sort g(K23){K0 as k:f(k);}");
        for (int k = 0; k < 24; k++) {
            due("under", x.kind(k, 0), k == 0 ? NONE : k - 1);
            due("SEALED", x.kind(k, 1), k < 23 ? 1 : 0);
        }
        due("the only LEAF", x.make(23, 0, 0, 0, 0), 0);
        due("no LEAF", x.make(22, 0, 0, 0, 0), BAD);
        dueTree("K0.0[1,2] A2 A0", x, 0);
        dueTree("K0.0[1,2] N A0", x, 1);
        dueRule(x, 0, 0, 1, 0);
        due("of the KIND that it is UNDER", x.sort(1, 0, 0, 0), 0);
        says("kind: 0 the KIND that it came under (NONE), 1 SEALED (1, 0), 2 how many PARTS, 3 + i the SORT of PART i (NONE: none such; to 6), 7 LATE");
        LetterPost y = read(1, "kind A;kind B under A(whole,truth,text,B);kind C under A(text);sort f(A){B:1;_:2;}");
        int[][] want = {{NONE, 1, 0, NONE, NONE, NONE, NONE, 0}, {0, 0, 4, 0, 1, 2, 4, 0}, {0, 0, 1, 2, NONE, NONE, NONE, 0}};
        for (int k = 0; k < 3; k++) {
            for (int what = 0; what < 8; what++) {
                due("kind " + k + " " + what, y.kind(k, what), want[k][what]);
            }
        }
        int[] bad = {-1, 8, LEAST, GREATEST};
        for (int what : bad) {
            due("kind 0 " + what, y.kind(0, what), BAD);
        }
        int[] noKind = {-1, 3, 24, LEAST, GREATEST};
        for (int k : noKind) {
            due("kind " + k, y.kind(k, 0), BAD);
            due("kind " + k, y.kind(k, 7), BAD);
        }
        says("7 LATE for THE TREE of the first function (1; 0; without functions 0)");
        due("add", late(y, "kind D under A;"), 3);
        due("LATE", y.kind(3, 7), 1);
        due("the last of the text", y.kind(2, 7), 0);
        y.remake(0, 2);
        due("taken in", y.kind(3, 7), 0);
        due("add", late(y, "kind E under A;"), 4);
        due("LATE", y.kind(4, 7), 1);
        due("taken in", y.kind(3, 7), 0);
        due("LATE KINDS told by add()", y.count(4), 2);
        LetterPost none = read(0, "kind A;kind B under A;");
        due("add", late(none, "kind C under A;"), 2);
        due("without functions", none.kind(2, 7), 0);
        LetterPost two = read(2, "kind A;kind B under A;sort f(A){B:1;}sort g(A){B:1;}");
        late(two, "kind C under A;");
        two.remake(1, 0);
        due("of the second alone", two.kind(2, 7), 1);
        two.remake(0, 0);
        due("of the first", two.kind(2, 7), 0);
        says("The KIND with a KINDNAME that these bytes tell (0s ahead). NONE.");
        LetterPost z = read(0, "kind A;kind Abcdefgh;kind Zz09;");
        due("A", z.kindNamed('A'), 0);
        due("8 bytes", z.kindNamed(packed("Abcdefgh")), 1);
        due("4 bytes", z.kindNamed(packed("Zz09")), 2);
        long[] others = {0, -1, 'a', 'B', (long) 'A' << 8, (long) 'A' << 56, packed("Abcdefg"), packed("Abcdefgi"), packed("Zz0"),
            packed(" A"), Long.MIN_VALUE | 'A'};
        for (long name : others) {
            due("kindNamed " + name, z.kindNamed(name), NONE);
        }
        due("a LATE one is not there yet", none.kindNamed('D'), NONE);
        due("a LATE one", none.kindNamed('C'), 2);
    }

    private static void functions() {
        says("function: 0 how many columns, 1 rules, 2 ROWS, 3 nodes of THE TREE, 4 its WAY, 5 its depth, 6 + i the SORT of column i (NONE; to 8). BAD.");
        LetterPost x = read(3, "kind A;sort f(A,whole){A,(1|2|5..6):1;(_|none),(3|4)if 1<2:2;}sort g(truth,text,A){}sort h(A){_:1;}");
        int[][] want = {{2, 2, 7, 18, 0, 4, 3, 0, NONE}, {3, 0, 0, 1, 0, 1, 1, 2, 3}, {1, 1, 1, 1, 0, 1, 3, NONE, NONE}};
        for (int f = 0; f < 3; f++) {
            for (int what = 0; what < 9; what++) {
                due("function " + f + " " + what, x.function(f, what), want[f][what]);
            }
        }
        int[] bad = {-1, 9, LEAST, GREATEST};
        for (int what : bad) {
            due("function 0 " + what, x.function(0, what), BAD);
        }
        int[] noFunction = {-1, 3, 12, LEAST, GREATEST};
        for (int f : noFunction) {
            due("function " + f, x.function(f, 0), BAD);
            due("node", x.node(f, 0, 0), BAD);
            due("branch", x.branch(f, 0, 0), BAD);
            due("missing", x.missing(f), BAD);
            due("unreached", x.unreached(f, 0), BAD);
            due("remake", x.remake(f, 0), BAD);
            due("sort", x.sort(f, 0, 0, 0), BAD);
            due("plain", x.plain(f, 0, 0, 0), BAD);
        }
        says("its depth (nodes on the longest way)");
        due("a NONE node alone", read(1, "sort f(whole){}").function(0, 5), 1);
        due("an ANSWER alone", read(1, "sort f(whole){_:1;}").function(0, 5), 1);
        due("a GUARD", read(1, "sort f(whole){_ if 1<2:1;}").function(0, 5), 2);
        due("16 GUARDS", read(1, many("sort f(whole){", "_ if 1<2:1;", 16, "}")).function(0, 5), 17);
        LetterPost y = read(1, "sort f(truth,truth,truth){true,true,true:1;}");
        due("three TESTS", y.function(0, 5), 4);
        LetterPost z = read(1, "sort f(whole,truth){1,true if 1<2:1;_,true:2;}");
        due("by 0", z.function(0, 5), 4);
        due("nodes by 1", z.remake(0, 1), 7);
        due("by 1", z.function(0, 5), 4);
        dueTree("B0.1[1,2] N W0.0[3,4,6] A1 G0[5] A1 A1", z, 0);
    }

    private static void nodes() {
        says("node: 0 what it is .. 4 the PLACE's last number (column, PART; else NONE). BAD.");
        LetterPost x = read(1, "kind K(truth,K,text);sort f(whole,K){1,K(_,K(true,_,'a'),_):1;_,n if 1<2:2;}");
        dueTree("W0.0[1,3,16] G1[2] N K0.1[4,6] G1[5] N K1.1[7,9] G1[8] N B2.0[10,12] G1[11] N T2.2[13,14] A0 G1[15] N G1[17] N", x, 0);
        says("node: BAD; branch: BAD");
        LetterPost y = read(1, "sort f(whole){1 if 1<2:1;2:2;}");
        dueTree("W0.0[1,2,4,5] N G0[3] N A1 N", y, 0);
        int[][] want = {{6, NONE, 4, 0, 0}, {0, NONE, 0, NONE, NONE}, {2, 0, 1, NONE, NONE}, {0, NONE, 0, NONE, NONE}, {1, 1, 0, NONE, NONE},
            {0, NONE, 0, NONE, NONE}};
        for (int n = 0; n < want.length; n++) {
            for (int what = 0; what < 5; what++) {
                due("node " + n + " " + what, y.node(0, n, what), want[n][what]);
            }
            due("node " + n + " 5", y.node(0, n, 5), BAD);
            due("node " + n + " -1", y.node(0, n, -1), BAD);
            due("branch beyond of " + n, y.branch(0, n, want[n][2]), BAD);
            due("branch -1 of " + n, y.branch(0, n, -1), BAD);
            due("branch of the least", y.branch(0, n, LEAST), BAD);
            due("branch of the greatest", y.branch(0, n, GREATEST), BAD);
        }
        int[] branches = {1, 2, 4, 5};
        for (int i = 0; i < 4; i++) {
            due("branch " + i, y.branch(0, 0, i), branches[i]);
        }
        due("branch of a GUARD", y.branch(0, 2, 0), 3);
        int[] noNode = {-1, 6, 119, 120, LEAST, GREATEST};
        for (int n : noNode) {
            due("node " + n, y.node(0, n, 0), BAD);
            due("branch of " + n, y.branch(0, n, 0), BAD);
        }
    }

    // ---- 3: trees ----

    /**
     * One way to the end, at K, K and one of the numbers 2, 4, .. of which so many are apart and so many come next to the last;
     * the rules of the last ones have guards. With L leaves of A: 4 + 2 L + 2 apart + adjacent + guarded nodes.
     */
    private static String edgeText(int apart, int adjacent, int guarded) {
        StringBuilder s = new StringBuilder("kind A;kind K under A;sort f(A,A,whole){");
        int made = 0;
        int all = apart + adjacent;
        while (made < all) {
            int end = made < all - guarded ? Math.min(made + 6, all - guarded) : Math.min(made + 6, all);
            boolean guard = made >= all - guarded;
            String sign = "K,K,(";
            for (; made < end; made++) {
                s.append(sign).append(made < apart ? 2 * made + 2 : apart + made + 1);
                sign = "|";
            }
            s.append(guard ? ")if 1<2:1;" : "):1;");
        }
        return s.append("}").toString();
    }

    private static void addLeaves(LetterPost x, int n) {
        for (int i = 0; i < n; i++) {
            due("add", late(x, "kind L" + i + " under A;"), 2 + i);
        }
    }

    private static void treeEdges() {
        says("A TREE may have 120 nodes (read)");
        due("120 nodes", read(1, edgeText(40, 0, 34)).function(0, 3), 4 + 2 + 80 + 34);
        LetterPost x = new LetterPost();
        feedAll(x, edgeText(40, 0, 35));
        due("121 nodes", x.read(), FULL);
        says("A TREE may have 120 nodes (remake: FULL (the TREE ahead stays))");
        LetterPost y = read(1, edgeText(38, 0, 0));
        addLeaves(y, 19);
        due("82 nodes", y.function(0, 3), 82);
        due("120 nodes", y.remake(0, 0), 120);
        due("120 nodes", y.function(0, 3), 120);
        due("missing of 120", y.missing(0), 1);
        due("unreached of 120", y.unreached(0, 0), 0);
        due("unreached of 120", y.unreached(0, 6), 0);
        due("way 1", y.remake(0, 1), 120);
        due("way 2", y.remake(0, 2), 120);
        due("way 3", y.remake(0, 3), FULL);
        due("its WAY stays", y.function(0, 4), 2);
        due("add", late(y, "kind Z under A;"), 21);
        for (int way = 0; way < 4; way++) {
            due("122 nodes", y.remake(0, way), FULL);
        }
        due("the TREE ahead stays", y.function(0, 3), 120);
        due("Z is LATE", y.kind(21, 7), 1);
        due("L18 is not", y.kind(20, 7), 0);
        due("missing: FULL", y.missing(0), FULL);
        due("unreached: FULL", y.unreached(0, 0), FULL);
        due("BAD ahead of FULL", y.unreached(0, 7), BAD);
        due("BAD ahead of FULL", y.remake(0, 4), BAD);
        says("beyond 120 nodes: FULL (missing, unreached)");
        LetterPost z = read(1, edgeText(38, 1, 0));
        addLeaves(z, 18);
        due("119 nodes", z.remake(0, 0), 119);
        due("missing of 119", z.missing(0), 1);
        late(z, "kind Z under A;");
        due("remake of 121", z.remake(0, 0), FULL);
        due("missing of 121", z.missing(0), FULL);
        due("unreached of 121", z.unreached(0, 0), FULL);
        says("MISSING is a function, if THE TREE by 0 of its ROWS of rules without guards has a NONE node");
        LetterPost g = read(1, edgeText(38, 1, 2));
        addLeaves(g, 18);
        due("121 with guards", g.remake(0, 0), FULL);
        due("unreached with guards", g.unreached(0, 0), FULL);
        due("116 without", g.missing(0), 1);
        LetterPost first = read(1, edgeText(38, 0, 0).replace("whole){", "whole){K,K,1 if 1<2:1;"));
        addLeaves(first, 19);
        due("122 with the guard of the first rule", first.remake(0, 0), FULL);
        due("unreached with it", first.unreached(0, 0), FULL);
        due("120 without", first.missing(0), 1);
    }

    /** All that is told of a tree, what is BAD among it. */
    private static String wholeTree(LetterPost x) {
        StringBuilder s = new StringBuilder();
        for (int what = 3; what < 6; what++) {
            s.append(x.function(0, what)).append(' ');
        }
        for (int n = 0; n <= x.function(0, 3); n++) {
            for (int what = 0; what < 5; what++) {
                s.append(' ').append(x.node(0, n, what));
            }
            for (int i = 0; i <= Math.max(0, x.node(0, n, 2)); i++) {
                s.append(',').append(x.branch(0, n, i));
            }
        }
        return s.toString();
    }

    private static void anew() {
        says("THE TREE of a function is made anew by a WAY: how many nodes (nothing of trees made ahead is left)");
        String[] texts = {"sort f(whole,text,truth){1,'a',_:1;_,'b',true:2;}", "sort f(truth,truth,truth){true,_,false:1;_,false,true if 1<2:2;}",
            "kind A;kind B under A(truth,A);sort f(A,truth){B(true,B(_,none)),true:1;_,false if 1<2:2;none,_:3;}"};
        int[] orders = {30, 31, 1302, 2031, 31323};
        for (String text : texts) {
            for (int order : orders) {
                LetterPost x = read(1, text);
                for (int left = order; left > 0; left /= 10) {
                    LetterPost once = read(1, text);
                    int way = left % 10;
                    due("nodes by " + way, x.remake(0, way), once.remake(0, way));
                    x.missing(0);
                    x.unreached(0, 0);
                }
                LetterPost once = read(1, text);
                once.remake(0, Integer.parseInt(String.valueOf(order).substring(0, 1)));
                dueText("the tree of " + text + " made anew by " + order, wholeTree(x), wholeTree(once));
            }
        }
        LetterPost x = read(1, texts[0]);
        int[] depths = {4, 3, 4, 3};
        for (int way = 0; way < 8; way++) {
            x.remake(0, way % 4);
            due("depth by " + way % 4, x.function(0, 5), depths[way % 4]);
        }
    }

    /** A pattern of so many KINDS of four PARTS in the first, and so many more in these; all other PARTS are NOTHING. */
    private static String wide(int inner, int left) {
        StringBuilder s = new StringBuilder("P(");
        for (int i = 0; i < 4; i++) {
            s.append(i == 0 ? "" : ",").append(i < inner ? wide((left + 3 - i) / 4, 0) : "none");
        }
        return s.append(")").toString();
    }

    /** What fits that pattern; its last PART's last PART is another NOTHING. */
    private static int makeWide(LetterPost x, int inner, int left, int last) {
        int[] parts = new int[4];
        for (int i = 0; i < 4; i++) {
            parts[i] = i < inner ? makeWide(x, (left + 3 - i) / 4, 0, i == 3 ? last : 0) : 0;
        }
        return x.make(0, parts[0], parts[1], parts[2], inner < 4 ? last : parts[3]);
    }

    private static void manyPlaces() {
        says("a PLACE (a column, then PARTS down from there); a TEST node for each, but ANSWER nodes of 2 behind all other BRANCHES");
        for (int left = 0; left <= 9; left++) {
            int tests = 21 + 4 * left;
            LetterPost x = read(1, "kind P(P,P,P,P);sort f(P){" + wide(4, left).replaceAll("none\\)\\)$", "none as z)as y)as x") + ":1;w:2;}");
            x.nothing();
            int last = x.nothing();
            int full = makeWide(x, 4, left, last);
            due("SIZE", x.value(full, 2), tests);
            int fourth = x.value(full, 6);
            int[] bound = {last, fourth, full, NONE};
            for (int by = -1; by < 4; by++) {
                due("nodes", by < 0 ? x.function(0, 3) : x.remake(0, by), 2 * tests + 1);
                due("depth", x.function(0, 5), tests + 1);
                due("it FITS", by < 0 ? x.plain(0, full, 0, 0) : x.sort(0, full, 0, 0), 0);
                due("TEST nodes come to", x.told(3), by < 0 ? 0 : tests);
                for (int i = 0; i < 4; i++) {
                    due("bound " + i, x.bound(i), bound[i]);
                }
            }
            // with 57 tests the letter has no room for one more in its last PLACE
            int end = x.make(0, x.value(fourth, 3), x.value(fourth, 4), x.value(fourth, 5), left < 9 ? x.make(0, 0, 0, 0, 0) : 0);
            int other = x.make(0, x.value(full, 3), x.value(full, 4), left < 9 ? x.value(full, 5) : 0, end);
            due("the last PLACE is not as wanted", x.sort(0, other, 0, 0), 1);
            due("by rules", x.plain(0, other, 0, 0), 1);
        }
    }

    private static void ways() {
        says("0 the first; 1 the one at which most ROWS have a TEST left; 2 the one with the fewest BRANCHES; 3 the last");
        String text = "sort f(whole,truth,text){1,true,'a':1;_,true,'b':2;_,_,'c':3;}";
        String[] roots = {"0.0", "0.2", "0.1", "0.2"};
        for (int way = 0; way < 4; way++) {
            LetterPost x = read(1, text);
            x.remake(0, way);
            dueText("root by " + way, x.node(0, 0, 3) + "." + x.node(0, 0, 4), roots[way]);
            due("its WAY", x.function(0, 4), way);
        }
        LetterPost y = read(1, text);
        int[] bad = {-1, 4, LEAST, GREATEST};
        for (int way : bad) {
            due("remake by " + way, y.remake(0, way), BAD);
        }
        due("its WAY stays", y.function(0, 4), 0);
        says("of like ones the first");
        String[] like = {"sort f(truth,truth,truth){true,true,true:1;}", "kind K;sort f(truth,K,truth){true,K,false:1;}"};
        for (String one : like) {
            for (int way = 0; way < 3; way++) {
                LetterPost x = read(1, one);
                x.remake(0, way);
                due("column by " + way, x.node(0, 0, 4), 0);
                due("next column by " + way, x.node(0, x.branch(0, 0, 1), 4), 1);
            }
            LetterPost x = read(1, one);
            x.remake(0, 3);
            due("column by 3", x.node(0, 0, 4), 2);
        }
        says("most ROWS (not those of which a TEST can't hold any more)");
        dueTree("B0.0[1,4] B0.1[2,3] N A1 T0.2[5,8,9] B0.1[6,7] N A0 A3 N", 1,
            "sort f(truth,truth,text){true,true,'a':1;false,true,_:2;false,true,_:3;true,_,'b':4;}");
        says("the fewest BRANCHES (of ROWS' TESTS left)");
        dueTree("B0.0[1,5] T0.1[2,3,4] A1 A2 N T0.1[6,10] W0.2[7,8,9] N A0 N N", 2,
            "sort f(truth,text,whole){true,'a',1:1;false,'b',_:2;false,'c',_:3;}");
        says("but those which lie in a PART of a PLACE where a TEST is left");
        dueTree("K0.0[1,2] N B1.1[3,4] N W1.0[5,6,7] N A0 N", 3, "kind K(whole,truth);sort f(K){K(1,true):1;}");
        dueTree("K0.0[1,2] N W1.0[3,4,7] N B1.1[5,6] N A0 N", 0, "kind K(whole,truth);sort f(K){K(1,true):1;}");
        dueTree("B0.1[1,2] N K0.0[3,4] N W1.0[5,6,7] N A0 N", 3, "kind K(whole);sort f(K,truth){K(1),true:1;}");
        dueTree("K0.0[1,2] N W1.0[3,4,7] N B0.1[5,6] N A0 N", 0, "kind K(whole);sort f(K,truth){K(1),true:1;}");
        dueTree("K0.0[1,2] N B0.1[3,4] N W1.0[5,6,7] N A0 N", 2, "kind K(whole);sort f(K,truth){K(1),true:1;}");
    }

    private static void branches() {
        says("of a KIND: NOTHING, then each LEAF that is the KIND of the PLACE's SORT or UNDER it, by numbers");
        String kinds = "kind A;kind B under A;kind C under A;kind D under B;kind E under B;kind F;";
        dueTree("K0.0[1,2,3,4] A1 A1 A1 A0", 0, kinds + "sort f(A){E:1;_:2;}");
        dueTree("K0.0[1,2,3,4] A2 A1 A0 A0", 0, kinds + "sort f(A){B:1;C:2;_:3;}");
        dueTree("K0.0[1,2,3] A1 A0 A0", 0, kinds + "sort f(B){A:1;_:2;}");
        dueTree("K0.0[1,2] A1 A0", 0, kinds + "sort f(F){F:1;_:2;}");
        dueTree("K0.0[1,2] A0 A1", 0, kinds + "sort f(F){none:1;_:2;}");
        says("KINDS that came later are no LEAVES of it");
        LetterPost x = read(1, kinds + "sort f(B){D:1;_:2;}");
        due("add", late(x, "kind G under B;"), 6);
        due("add", late(x, "kind H under A;"), 7);
        dueTree("K0.0[1,2,3] A1 A0 A1", x, 0);
        due("remake", x.remake(0, 0), 5);
        dueTree("K0.0[1,2,3,4] A1 A0 A1 A1", x, 0);
        says("of a TRUTH: false, true");
        dueTree("B0.0[1,2] A0 A1", 0, "sort f(truth){false:1;_:2;}");
        dueTree("B0.0[1,2] A1 A0", 0, "sort f(truth){true:1;false:2;}");
        says("of a TEXT: each TEXT which ROWS' TESTS left want there, in the order of ROWS, then all others");
        dueTree("T0.0[1,2,3,4] A0 A1 A3 N", 0, "sort f(text){'b':1;'a':2;'b':3;'':4;}");
        dueTree("T0.0[1,2] A0 N", 0, "sort f(text){'':1;'':2;}");
        says("of a WHOLE: the ints .. parted ahead of the first and behind the last number of each TEST left there, upward");
        dueTree("W0.0[1,2,3] N A0 N", 0, "sort f(whole){5:1;}");
        dueTree("W0.0[1,2,3] N A0 N", 0, "sort f(whole){5:1;5..5:2;}");
        dueTree("W0.0[1,2,3,4] N A0 A1 N", 0, "sort f(whole){1..5:1;6..9:2;}");
        dueTree("W0.0[1,2,3,4] N A1 A0 N", 0, "sort f(whole){6..9:1;1..5:2;}");
        dueTree("W0.0[1,2,3,4,5] N A0 A0 A1 N", 0, "sort f(whole){1..5:1;5..9:2;}");
        dueTree("W0.0[1,2,3,4,5] N A0 N A1 N", 0, "sort f(whole){1..5:1;7..9:2;}");
        dueTree("W0.0[1,2,3,4,5] N A1 A0 A1 N", 0, "sort f(whole){5:1;1..9:2;}");
        dueTree("W0.0[1,2,3] N A0 N", 0, "sort f(whole){-999999999..999999999:1;}");
        says("ROWS of a function: of each rule .. those of the first ( | ) turning slowest, in the order told");
        dueTree("T0.0[1,5,9] T0.1[2,3,4] A0 A0 N T0.1[6,7,8] A0 A0 N N", 0, "sort f(text,text){('a'|'b'),('c'|'d'):1;}");
        dueTree("T0.0[1,2,3,4] A0 A0 A0 N", 0, "sort f(text){('b'|('c'|'a')):1;}");
        dueTree("T0.0[1,2,3,4] A0 A0 A0 N", 0, "sort f(text){(('b'|'c')|'a'):1;}");
        due("ROWS of nested ( | )", read(1, "sort f(text){(('b'|'c')|'a'):1;}").function(0, 2), 3);
        due("40 ROWS", read(1, "sort f(whole,whole){(1|2|3|4|5),((1|2)|(3|4)|5|6|7|8):1;}").function(0, 2), 40);
        says("if the rule has a guard, a GUARD node, with THE TREE of the other ROWS that are not of this rule");
        dueTree("B0.0[1,3] G0[2] A1 G0[4] A1", 0, "sort f(truth,truth){(true|false),b if 1>2:1;_,_:2;}");
        dueTree("G0[1] N", 0, "sort f(whole){(_|_|5)if 1<2:1;}");
        dueTree("W0.0[1,3,6] G1[2] N G0[4] G1[5] N G1[7] N", 0, "sort f(whole){5 if 1<2:1;_ if 1<2:2;}");
        says("No ROW is left: a NONE node");
        dueTree("N", 0, "sort f(whole){}");
        says("The first ROW has no TEST left: an ANSWER node of its rule");
        dueTree("A0", 0, "sort f(whole,text){n,_:1;1,'a':2;}");
    }

    private static void judged() {
        says("MISSING is a function, if THE TREE by 0 of its ROWS of rules without guards has a NONE node");
        String kinds = "kind A;kind B under A;kind C under A(truth);";
        String[] rules = {"", "_:1;", "a if 1=1:1;", "B:1;C:2;", "B:1;C:2;none:3;", "A:1;none:2;", "A:1;none if 1=1:2;", "B:1;none:2;C(true):3;C(b):4;",
            "B:1;none:2;C(true):3;C(false)if 1=1:4;", "B:1;none:2;C(true):3;C(false):4;"};
        int[] missing = {1, 0, 1, 1, 0, 0, 1, 0, 1, 0};
        for (int i = 0; i < rules.length; i++) {
            LetterPost x = read(1, kinds + "sort f(A){" + rules[i] + "}");
            due("missing of " + rules[i], x.missing(0), missing[i]);
        }
        due("no number has a rule", read(1, "sort f(whole){-999999999..999999999:1;}").missing(0), 1);
        due("a TEXT", read(1, "sort f(text){'':1;'a':2;}").missing(0), 1);
        due("all TEXTS", read(1, "sort f(text){'':1;t:2;}").missing(0), 0);
        says("(LEAVES as now)");
        LetterPost x = read(1, kinds + "sort f(A){B:1;C:2;none:3;_:4;}");
        int[] unreached = {0, 0, 0, 1};
        for (int rule = 0; rule < 4; rule++) {
            due("unreached " + rule, x.unreached(0, rule), unreached[rule]);
        }
        due("add", late(x, "kind D under A;"), 3);
        due("a LATE LEAF comes to it", x.unreached(0, 3), 0);
        due("THE TREE is as it was", x.function(0, 3), 4);
        LetterPost y = read(1, kinds + "sort f(A){B:1;C:2;none:3;}");
        due("not MISSING", y.missing(0), 0);
        late(y, "kind D under A;");
        due("MISSING", y.missing(0), 1);
        due("D is LATE still", y.kind(3, 7), 1);
        says("UNREACHED is a rule that has no ANSWER, GUARD node in THE TREE by 0. BAD.");
        LetterPost z = read(1, "sort f(whole){1..9 if 1>2:1;1..9:2;3:3;n if n<0:4;m:5;_:6;}");
        int[] want = {0, 0, 1, 0, 0, 1};
        z.remake(0, 3);
        for (int rule = 0; rule < 6; rule++) {
            due("unreached " + rule, z.unreached(0, rule), want[rule]);
        }
        due("its WAY stays", z.function(0, 4), 3);
        int[] noRule = {-1, 6, 16, LEAST, GREATEST};
        for (int rule : noRule) {
            due("unreached " + rule, z.unreached(0, rule), BAD);
        }
        due("of no rules", read(1, "sort f(whole){}").unreached(0, 0), BAD);
    }

    // ---- 2: letters ----

    private static void letterCounts() {
        says("LETTERS are values, 0, 1, .. as they come, 160 at most (whole, truth, letters, nothing, make: FULL)");
        Call[] makers = {x -> x.whole(5), x -> x.truth(0), x -> x.letters(97), x -> x.nothing(), x -> x.make(0, -1, -1, -1, -1)};
        for (Call last : makers) {
            LetterPost x = read(0, "kind K;");
            for (int v = 0; v < 159; v++) {
                due("letter", makers[v % 5].on(x), v);
            }
            due("values", x.count(2), 159);
            due("the 160th", last.on(x), 159);
            due("values", x.count(2), 160);
            for (Call one : makers) {
                due("the 161st", one.on(x), FULL);
            }
            due("values", x.count(2), 160);
            due("the 160th", x.value(159, 2), 1);
            due("no 161st", x.value(160, 2), NONE);
            due("alike", x.alike(159, 159), 1);
            due("alike", x.alike(159, 160), BAD);
            due("BAD ahead of FULL", x.letters(1), BAD);
            due("BAD ahead of FULL", x.make(1, 0, 0, 0, 0), BAD);
        }
        says("SIZE: 1, and its PARTS' SIZES: 60 at most");
        LetterPost x = read(0, "kind S;kind Q under S(S);kind P under S(S,S,S,S);kind O under S;");
        due("1", x.nothing(), 0);
        for (int v = 1; v < 60; v++) {
            due("one more", x.make(1, v - 1, 0, 0, 0), v);
            due("its SIZE", x.value(v, 2), v + 1);
        }
        due("61", x.make(1, 59, 0, 0, 0), FULL);
        due("values", x.count(2), 60);
        due("60 of four", x.make(2, 14, 14, 14, 13), 60);
        due("its SIZE", x.value(60, 2), 60);
        int[][] over = {{15, 14, 14, 13}, {14, 15, 14, 13}, {14, 14, 15, 13}, {14, 14, 14, 14}, {59, 59, 59, 59}};
        for (int[] p : over) {
            due("61 of four", x.make(2, p[0], p[1], p[2], p[3]), FULL);
        }
        due("BAD ahead of FULL", x.make(2, 59, 59, 59, 61), BAD);
        due("a LEAF without PARTS", x.make(3, 59, 59, 59, 59), 61);
        due("its SIZE", x.value(61, 2), 1);
    }

    private static void letterKinds() {
        says("A WHOLE: its number");
        LetterPost w = new LetterPost();
        int[] wholes = {LEAST, -1, 0, 1, GREATEST, BAD, NO, FULL, NONE};
        for (int i = 0; i < wholes.length; i++) {
            due("whole", w.whole(wholes[i]), i);
            due("what", w.value(i, 0), 0);
            due("the WHOLE", w.value(i, 1), wholes[i]);
        }
        says("A TRUTH (0: false; else true)");
        LetterPost t = new LetterPost();
        int[] truths = {0, 1, -1, 2, 256, LEAST, GREATEST};
        for (int i = 0; i < truths.length; i++) {
            due("truth", t.truth(truths[i]), i);
            due("what", t.value(i, 0), 1);
            due("0 or 1", t.value(i, 1), i == 0 ? 0 : 1);
        }
        for (int i = 0; i < truths.length; i++) {
            due("alike to true", t.alike(i, 1), i == 0 ? 0 : 1);
        }
        says("A TEXT: these bytes, the highest first, 0s ahead (0: none). BAD: others than a .. z");
        int[] others = {0, 1, ' ', '0', '9', 'A', 'Z', 'a' - 1, 'z' + 1, 127, 128, 'a' + 128, 255};
        for (int length = 0; length <= 8; length++) {
            LetterPost x = new LetterPost();
            due("letters", x.letters(packed("azbycxdw".substring(0, length))), 0);
            due("what", x.value(0, 0), 2);
            due("how many letters", x.value(0, 1), length);
            due("SIZE", x.value(0, 2), 1);
            for (int shift = 0; shift < 8 * length; shift += 8) {
                for (int b : others) {
                    long text = packed("aaaaaaaa".substring(0, length)) & ~(255L << shift) | (long) b << shift;
                    boolean shorter = b == 0 && shift == 8 * length - 8;
                    due("letters " + Long.toHexString(text), x.letters(text), shorter ? 1 : BAD);
                }
            }
            due("values", x.count(2), length == 0 ? 1 : 2);
        }
        LetterPost y = new LetterPost();
        due("the least long", y.letters(Long.MIN_VALUE), BAD);
        due("-1", y.letters(-1), BAD);
        due("8 times z", y.letters(packed("zzzzzzzz")), 0);
        due("of 8", y.value(0, 1), 8);
    }

    private static void made() {
        says("One of a LEAF with PARTS a, b, c, d (beyond its PARTS they count for nothing). BAD: no LEAF; a PART that is no value, or of another SORT");
        LetterPost x = read(0, "kind A;kind B under A(whole,truth,text,A);kind C under A(B,C);kind D;kind E under B;".replace("kind E under B;", ""));
        int w = x.whole(1);
        int t = x.truth(1);
        int s = x.letters(0);
        int n = x.nothing();
        int d = x.make(3, LEAST, -1, 160, GREATEST);
        int b = x.make(1, w, t, s, n);
        due("D", d, 4);
        due("B", b, 5);
        int c = x.make(2, b, n, -1, 99);
        due("C", c, 6);
        int[] right = {w, t, s, c};
        int[][] wrongs = {{t, s, n, d, b, c}, {w, s, n, d, b, c}, {w, t, n, d, b, c}, {w, t, s, d}};
        int[] noValue = {-1, 7, 159, 160, LEAST, GREATEST};
        for (int i = 0; i < 4; i++) {
            for (int other : wrongs[i]) {
                int[] p = right.clone();
                p[i] = other;
                due("another SORT as PART " + i, x.make(1, p[0], p[1], p[2], p[3]), BAD);
            }
            for (int none : noValue) {
                int[] p = right.clone();
                p[i] = none;
                due("no value as PART " + i, x.make(1, p[0], p[1], p[2], p[3]), BAD);
            }
        }
        due("not of B", x.make(2, c, n, 0, 0), BAD);
        due("not of C", x.make(2, b, b, 0, 0), BAD);
        due("values", x.count(2), 7);
        due("all right", x.make(1, w, t, s, c), 7);
        due("NOTHING is of each KIND's SORT", x.make(2, n, n, 0, 0), 8);
        int[] noLeaf = {0, -1, 4, 24, LEAST, GREATEST};
        for (int k : noLeaf) {
            due("make of " + k, x.make(k, w, t, s, n), BAD);
        }
        due("values", x.count(2), 9);
        says("Of a KIND's SORT are NOTHING, and what is of a LEAF that is it or UNDER it");
        LetterPost y = read(1, "kind A;kind B under A;kind C under B;kind D under A;kind H(A);kind I(B);kind J(C);sort f(B){C:1;_:2;}");
        int vc = y.make(2, 0, 0, 0, 0);
        int vd = y.make(3, 0, 0, 0, 0);
        due("C as A", y.make(4, vc, 0, 0, 0), 2);
        due("C as B", y.make(5, vc, 0, 0, 0), 3);
        due("C as C", y.make(6, vc, 0, 0, 0), 4);
        due("D as A", y.make(4, vd, 0, 0, 0), 5);
        due("D as B", y.make(5, vd, 0, 0, 0), BAD);
        due("D as C", y.make(6, vd, 0, 0, 0), BAD);
        due("C sorted as B", y.sort(0, vc, 0, 0), 0);
        due("D sorted as B", y.sort(0, vd, 0, 0), BAD);
        due("D tried as B", y.plain(0, vd, 0, 0), BAD);
        due("NOTHING sorted as B", y.sort(0, y.nothing(), 0, 0), 1);
    }

    private static void values() {
        says("value: .. 2 SIZE, 3 + i PART i as a value (NONE; to 6). BAD answers NONE.");
        LetterPost x = read(0, "kind A;kind B under A(whole,A,truth,text);kind C under A(whole);");
        x.whole(-3);
        x.truth(1);
        x.letters(packed("abc"));
        x.nothing();
        x.make(1, 0, 3, 1, 2);
        x.make(2, 0, 0, 0, 0);
        int[][] want = {{0, -3, 1, NONE, NONE, NONE, NONE}, {1, 1, 1, NONE, NONE, NONE, NONE}, {2, 3, 1, NONE, NONE, NONE, NONE},
            {3, NONE, 1, NONE, NONE, NONE, NONE}, {4, 1, 5, 0, 3, 1, 2}, {4, 2, 2, 0, NONE, NONE, NONE}};
        int[] bad = {-1, 7, 8, LEAST, LEAST + 3, GREATEST};
        for (int v = 0; v < want.length; v++) {
            for (int what = 0; what < 7; what++) {
                due("value " + v + " " + what, x.value(v, what), want[v][what]);
            }
            for (int what : bad) {
                due("value " + v + " " + what, x.value(v, what), NONE);
            }
        }
        int[] noValue = {-1, 6, 160, LEAST, GREATEST};
        for (int v : noValue) {
            for (int what = -1; what < 8; what++) {
                due("value " + v + " " + what, x.value(v, what), NONE);
            }
            due("alike " + v, x.alike(v, 0), BAD);
            due("alike " + v, x.alike(0, v), BAD);
            due("alike " + v, x.alike(v, v), BAD);
        }
        says("Values are ALIKE if they are the same number, truth, letters, both NOTHING, or of one LEAF with ALIKE PARTS");
        LetterPost y = read(0, "kind A;kind B under A(whole,A);kind C under A(whole,A);kind D under A;kind E under A;");
        int[] made = {y.whole(0), y.truth(0), y.letters(0), y.nothing(), y.make(3, 0, 0, 0, 0), y.make(4, 0, 0, 0, 0), y.whole(1), y.truth(1),
            y.letters(97), y.letters(98), y.letters(packed("aa")), y.make(1, 0, 3, 0, 0), y.make(1, 6, 3, 0, 0), y.make(2, 0, 3, 0, 0),
            y.make(1, 0, 4, 0, 0), y.make(1, 0, 11, 0, 0), y.make(1, 0, 12, 0, 0)};
        int[] again = {y.whole(0), y.truth(0), y.letters(0), y.nothing(), y.make(3, 0, 0, 0, 0), y.make(4, 0, 0, 0, 0), y.whole(1), y.truth(2),
            y.letters(97), y.letters(98), y.letters(packed("aa")), y.make(1, 17, 20, 0, 0), y.make(1, 23, 20, 0, 0), y.make(2, 17, 20, 0, 0),
            y.make(1, 17, 21, 0, 0), y.make(1, 17, 28, 0, 0), y.make(1, 17, 29, 0, 0)};
        for (int i = 0; i < made.length; i++) {
            for (int j = 0; j < again.length; j++) {
                due("alike " + made[i] + " " + again[j], y.alike(made[i], again[j]), i == j ? 1 : 0);
            }
            due("alike to itself", y.alike(again[i], again[i]), 1);
        }
    }

    // ---- sorting ----

    private static void fitting() {
        says("a number that WHOLE, a range those from the first to the second");
        LetterPost x = read(1, "sort f(whole){-5..7:1;8:2;-999999999:3;999999999:4;n:n;}");
        int[] numbers = {-6, -5, -1, 0, 7, 8, 9, LEAST, LEAST + 1, -1000000000, -999999999, -999999998, 999999998, 999999999, 1000000000,
            GREATEST - 1, GREATEST};
        int[] rules = {4, 0, 0, 0, 0, 1, 4, 4, 4, 4, 2, 4, 4, 3, 4, 4, 4};
        for (int i = 0; i < numbers.length; i++) {
            dueRule(x, rules[i], 0, rules[i] == 4 ? numbers[i] : rules[i] + 1, x.whole(numbers[i]));
        }
        says("true, false, a TEXT those; none NOTHING");
        LetterPost t = read(1, "sort f(text){'':1;'a':2;'aaaaaaaa':3;'aa':4;t:5;}");
        String[] texts = {"", "a", "aaaaaaaa", "aa", "b", "aaaaaaa", "z", "ab", "aaaaaaab"};
        for (int i = 0; i < texts.length; i++) {
            dueRule(t, Math.min(i, 4), 0, Math.min(i, 4) + 1, t.letters(packed(texts[i])));
        }
        LetterPost b = read(1, "sort f(truth,truth){false,true:1;true,false:2;true,b:3;_,_:4;}");
        for (int i = 0; i < 4; i++) {
            int rule = new int[] {3, 0, 1, 2}[i];
            dueRule(b, rule, 0, rule + 1, b.truth(i / 2), b.truth(i % 2));
        }
        says("a KINDNAME what is of a LEAF that is it or UNDER it, with ( ) if all its PARTS FIT, too");
        LetterPost k = read(1, "kind A;kind B under A;kind C under B(whole,A);kind D under B;kind E under A;"
            + "sort f(A){C(1,none):1;C(n,C(2,B)):n;D:3;B:4;none:5;A:6;}");
        int w1 = k.whole(1);
        int w2 = k.whole(2);
        int no = k.nothing();
        int e = k.make(4, 0, 0, 0, 0);
        int d = k.make(3, 0, 0, 0, 0);
        int c1 = k.make(2, w1, no, 0, 0);
        int c2 = k.make(2, w2, d, 0, 0);
        int c2e = k.make(2, w2, e, 0, 0);
        dueRule(k, 0, 0, 1, c1);
        dueRule(k, 1, 0, 2, k.make(2, w2, c2, 0, 0));
        dueRule(k, 3, 0, 4, k.make(2, w2, c2e, 0, 0));
        dueRule(k, 3, 0, 4, k.make(2, w1, e, 0, 0));
        dueRule(k, 2, 0, 3, d);
        dueRule(k, 4, 0, 5, no);
        dueRule(k, 5, 0, 6, e);
        says("( | ) what an alternative FITS: it binds as the first one that does. as: it binds that, too.");
        LetterPost y = read(1, "kind K(whole,whole);sort f(K,truth){(K(1 as p,q)|K(q,p)) as r,(true as s|s) as t:p;}");
        int one = y.whole(1);
        int uno = y.whole(1);
        int two = y.whole(2);
        int[][] pairs = {{one, uno, one, uno}, {uno, one, uno, one}, {two, one, one, two}, {one, two, one, two}, {two, two, two, two}};
        for (int[] p : pairs) {
            int v = y.make(0, p[0], p[1], 0, 0);
            int truth = y.truth(p[0] == two ? 0 : 1);
            dueRule(y, 0, 0, p[2] == two ? 2 : 1, v, truth);
            int[] bound = {p[2], p[3], v, truth, truth, NONE};
            for (int i = 0; i < bound.length; i++) {
                due("bound " + i + " by plain", y.bound(i), bound[i]);
            }
            y.sort(0, v, truth, 0);
            for (int i = 0; i < bound.length; i++) {
                due("bound " + i + " by sort", y.bound(i), bound[i]);
            }
        }
    }

    private static void guards() {
        says("its sums are ints that wrap, / and % cut toward 0");
        String[] sums = {"a+b=c", "a-b=c", "a*b=c", "a/b=c", "a%b=c"};
        int[][] cases = {
            {0, GREATEST, 1, LEAST}, {0, LEAST, -1, GREATEST}, {0, LEAST, LEAST, 0}, {0, 2, -5, -3},
            {1, LEAST, 1, GREATEST}, {1, GREATEST, -1, LEAST}, {1, 0, LEAST, LEAST}, {1, 2, -5, 7},
            {2, LEAST, -1, LEAST}, {2, GREATEST, 2, -2}, {2, 65536, 65536, 0}, {2, -3, 5, -15},
            {3, LEAST, -1, LEAST}, {3, -7, 2, -3}, {3, 7, -2, -3}, {3, -7, -2, 3}, {3, 1, GREATEST, 0}, {3, 0, 5, 0},
            {4, LEAST, -1, 0}, {4, -7, 2, -1}, {4, 7, -2, 1}, {4, -7, -2, -1}, {4, 5, LEAST, 5}, {4, LEAST, GREATEST, -1}};
        for (int[] one : cases) {
            LetterPost x = read(1, "sort f(whole,whole,whole){a,b,c if " + sums[one[0]] + ":1;_,_,_:2;}");
            dueRule(x, 0, 0, 1, x.whole(one[1]), x.whole(one[2]), x.whole(one[3]));
            dueRule(x, 1, 0, 2, x.whole(one[1]), x.whole(one[2]), x.whole(one[3] + 1));
        }
        says("if sum ( < | = | > ) sum");
        String[] signs = {"<", "=", ">"};
        for (int sign = 0; sign < 3; sign++) {
            LetterPost x = read(1, "sort f(whole,whole){a,b if a" + signs[sign] + "b:1;_,_:2;}");
            int[][] pairs = {{1, 2}, {2, 2}, {3, 2}, {LEAST, GREATEST}, {GREATEST, GREATEST}, {GREATEST, LEAST}};
            for (int i = 0; i < pairs.length; i++) {
                boolean holds = i % 3 == sign;
                dueRule(x, holds ? 0 : 1, 0, holds ? 1 : 2, x.whole(pairs[i][0]), x.whole(pairs[i][1]));
            }
        }
        says("by 0 the guard THROWS; 3 a guard THREW (of the RULE told)");
        String[] throwing = {"a/b=0", "a%b=0", "1=a/b", "1<2%b", "a/0<1", "1>1%0", "b/b=1", "0/0=0", "1/0=1/0", "1<1/0"};
        for (String guard : throwing) {
            LetterPost x = read(1, "sort f(whole,whole){1,_:1;a,b if " + guard + ":2;_,_:3;}");
            int a = x.whole(5);
            int b = x.whole(0);
            dueRule(x, NONE, 3, 0, a, b);
            dueTold(x, 3, 0, 1, 0, 1, 0, 1);
            x.sort(0, a, b, 0);
            dueTold(x, 3, 0, 1, 1, 1, 0, 1);
            due("guard 0", x.guard(0), 1);
            due("guard 1", x.guard(1), NONE);
            due("bound", x.bound(0), NONE);
        }
    }

    private static LetterPost chains(String text, int links) {
        LetterPost x = read(2, "kind L(L);" + text);
        x.nothing();
        for (int v = 1; v <= links; v++) {
            x.make(0, v - 1, 0, 0, 0);
        }
        return x;
    }

    private static void spent() {
        says("4 SPENT: the 101st function would be begun");
        LetterPost x = chains("sort f(L,L){L(x),y:f(x,y);none,y:g(y);}sort g(L){L(x):g(x);none:7;}", 59);
        int[][] pairs = {{49, 49, 0}, {49, 50, 4}, {59, 39, 0}, {59, 40, 4}, {40, 58, 0}, {40, 59, 4}, {59, 59, 4}, {0, 0, 0}};
        for (int[] p : pairs) {
            boolean done = p[2] == 0;
            int begun = Math.min(100, p[0] + p[1] + 2);
            due("sort", x.sort(0, p[0], p[1], 0), p[0] == 0 ? 1 : 0);
            dueTold(x, p[2], done ? 7 : 0, begun, begun, 0, 1, done ? 1 : NONE);
            due("bound", x.bound(0), p[0] == 0 ? p[1] : p[0] - 1);
            due("plain", x.plain(0, p[0], p[1], 0), p[0] == 0 ? 1 : 0);
            dueTold(x, p[2], done ? 7 : 0, begun, 0, 0, 1, done ? 1 : NONE);
            due("bound", x.bound(0), p[0] == 0 ? p[1] : p[0] - 1);
        }
        says("5 the function whose rule, or want of one, brought OUTCOME");
        LetterPost y = read(2, "sort f(whole){n:g(n);}sort g(whole){n:f(n);}");
        int w = y.whole(1);
        due("sort", y.sort(0, w, 0, 0), 0);
        dueTold(y, 4, 0, 100, 0, 0, 1, NONE);
        due("sort", y.sort(1, w, 0, 0), 0);
        dueTold(y, 4, 0, 100, 0, 0, 0, NONE);
        due("plain", y.plain(1, w, 0, 0), 0);
        dueTold(y, 4, 0, 100, 0, 0, 0, NONE);
        LetterPost z = chains("sort f(L){L(x):g(x);_:2;}sort g(L){L(x)if 1/0=1:1;}", 2);
        due("want of a rule", z.sort(0, 1, 0, 0), 0);
        dueTold(z, 1, 0, 2, 2, 0, 1, NONE);
        due("bound", z.bound(0), 0);
        due("a guard of another", z.plain(0, 2, 0, 0), 0);
        dueTold(z, 3, 0, 2, 0, 1, 1, 0);
        due("bound", z.bound(0), 1);
        due("an ANSWER", z.plain(0, 0, 0, 0), 1);
        dueTold(z, 0, 2, 1, 0, 0, 0, 1);
        due("bound", z.bound(0), NONE);
    }

    private static void askedGuards() {
        says("Guard i asked by that, in order (32 are kept): 100 times the function and its rule. NONE.");
        LetterPost x = chains("sort f(L){L(x)if 1<2:f(x);none if 1=1:3;}sort g(L){}", 58);
        int[] links = {0, 30, 31, 32, 58, 1};
        for (int n : links) {
            for (int by = 0; by < 2; by++) {
                due("rule", by == 0 ? x.sort(0, n, 0, 0) : x.plain(0, n, 0, 0), n == 0 ? 1 : 0);
                due("guards that were asked", x.told(4), n + 1);
                int[] at = {-1, 0, n - 1, n, n + 1, 31, 32, 33, LEAST, GREATEST};
                for (int i : at) {
                    due("guard " + i + " of " + (n + 1), x.guard(i), i < 0 || i > n || i > 31 ? NONE : i == n ? 1 : 0);
                }
            }
        }
        LetterPost y = read(12, many("", "sort f#(whole){}", 11, "") + many("sort g(whole){", "n if 1>2:1;", 15, "n if 1<2:5;}"));
        int w = y.whole(1);
        due("the 16th rule", y.sort(11, w, 0, 0), 15);
        dueTold(y, 0, 5, 1, 0, 16, 11, 15);
        for (int i = 0; i < 16; i++) {
            due("guard " + i, y.guard(i), 1100 + i);
        }
        due("guard 16", y.guard(16), NONE);
    }

    private static void lateLetters() {
        says("what is of a LEAF that came behind the TREE (LATE): OUTCOME 2; KINDS LATE or not are as they are now (no OUTCOME 2)");
        LetterPost x = read(2, "kind A;kind B under A;kind C under A(A);sort f(A,truth){C(B),true:1;C(c),false:g(c);A,_:3;_,_:4;}"
            + "sort g(A){B:5;a:6;}");
        int d = x.make(late(x, "kind D under A;"), 0, 0, 0, 0);
        int b = x.make(1, 0, 0, 0, 0);
        int cd = x.make(2, d, 0, 0, 0);
        int cb = x.make(2, b, 0, 0, 0);
        int no = x.truth(0);
        int yes = x.truth(1);
        due("LATE", x.sort(0, d, yes, 0), NONE);
        dueTold(x, 2, 0, 1, 1, 0, 0, NONE);
        due("bound", x.bound(0), NONE);
        due("now", x.plain(0, d, yes, 0), 2);
        dueTold(x, 0, 3, 1, 0, 0, 0, 2);
        due("LATE in a PART", x.sort(0, cd, yes, 0), NONE);
        dueTold(x, 2, 0, 1, 2, 0, 0, NONE);
        due("now", x.plain(0, cd, yes, 0), 2);
        due("not LATE", x.sort(0, cb, yes, 0), 0);
        due("LATE in the other function", x.sort(1, d, 0, 0), NONE);
        x.remake(0, 0);
        due("taken in by the first", x.sort(0, d, yes, 0), 2);
        due("taken in by the first", x.sort(0, cd, no, 0), 1);
        dueTold(x, 2, 0, 2, x.told(3), 0, 1, NONE);
        due("bound of the first", x.bound(0), d);
        x.remake(1, 3);
        due("taken in by both", x.sort(0, cd, no, 0), 1);
        dueTold(x, 0, 6, 2, x.told(3), 0, 1, 1);
        LetterPost y = read(1, "kind A;kind B under A;sort f(A,truth){_,true:1;B,_:2;}");
        int late = y.make(late(y, "kind C under A;"), 0, 0, 0, 0);
        due("not asked for", y.sort(0, late, y.truth(1), 0), 0);
        due("asked for", y.sort(0, late, y.truth(0), 0), NONE);
        due("OUTCOME", y.told(0), 2);
    }

    private static void sorting() {
        says("sort, plain: (beyond its columns they count for nothing) .. BAD: a letter that is none, or of another SORT");
        LetterPost x = read(3, "kind K;sort f(whole){_:1;}sort g(whole,truth){_,_:1;}sort h(whole,truth,K){n,t,k:n;}");
        int w = x.whole(9);
        int t = x.truth(1);
        int k = x.make(0, 0, 0, 0, 0);
        int n = x.nothing();
        int[] odd = {-1, 4, 159, 160, LEAST, GREATEST};
        dueTold(x, 0, 0, 0, 0, 0, 0, 0);
        for (int v : odd) {
            due("beyond one column", x.sort(0, w, v, v), 0);
            due("beyond one column", x.plain(0, w, v, v), 0);
            due("beyond two columns", x.sort(1, w, t, v), 0);
            due("beyond two columns", x.plain(1, w, t, v), 0);
            due("no letter a", x.sort(0, v, w, w), BAD);
            due("no letter a", x.plain(0, v, w, w), BAD);
            due("no letter b", x.sort(1, w, v, t), BAD);
            due("no letter b", x.plain(1, w, v, t), BAD);
            due("no letter c", x.sort(2, w, t, v), BAD);
            due("no letter c", x.plain(2, w, t, v), BAD);
        }
        int[][] wrongs = {{t, t, k}, {k, t, k}, {n, t, k}, {w, w, k}, {w, k, k}, {w, n, k}, {w, t, w}, {w, t, t}};
        for (int[] p : wrongs) {
            due("another SORT", x.sort(2, p[0], p[1], p[2]), BAD);
            due("another SORT", x.plain(2, p[0], p[1], p[2]), BAD);
        }
        says("told: Of the latest sort(), plain() that was not BAD");
        due("NOTHING as a KIND's", x.sort(2, w, t, n), 0);
        dueTold(x, 0, 9, 1, 0, 0, 2, 0);
        due("BAD", x.sort(2, w, t, t), BAD);
        dueTold(x, 0, 9, 1, 0, 0, 2, 0);
        int[] bound = {w, t, n, NONE};
        for (int i = 0; i < 4; i++) {
            due("bound " + i, x.bound(i), bound[i]);
        }
        due("plain", x.plain(0, w, 0, 0), 0);
        dueTold(x, 0, 1, 1, 0, 0, 0, 0);
        due("bound of another", x.bound(0), NONE);
        says("told: BAD: another what. 0 each before any.");
        int[] bad = {-1, 7, LEAST, GREATEST};
        LetterPost fresh = new LetterPost();
        dueTold(fresh, 0, 0, 0, 0, 0, 0, 0);
        for (int what : bad) {
            due("told " + what, x.told(what), BAD);
            due("told " + what, fresh.told(what), BAD);
            due("guard " + what, fresh.guard(what), NONE);
            due("bound " + what, fresh.bound(what), NONE);
        }
        due("guard 0", fresh.guard(0), NONE);
        due("bound 0", fresh.bound(0), NONE);
        says("6 that rule (NONE: OUTCOME 1, 2, 4)");
        LetterPost y = read(1, "sort f(whole){1:1;}");
        due("no rule", y.sort(0, y.whole(2), 0, 0), NONE);
        dueTold(y, 1, 0, 1, 1, 0, 0, NONE);
        due("no rule", y.plain(0, 0, 0, 0), NONE);
        dueTold(y, 1, 0, 1, 0, 0, 0, NONE);
        due("bound", y.bound(0), NONE);
    }

    private static void bound() {
        says("What NAME i of the rule that answered first .. NONE: none such, or no rule did");
        LetterPost x = read(1, "kind K(whole,whole,whole,whole);sort f(K,K){K(h,g,e,d),K(c,b,a,i):i;K(a,_,_,_)as b,_ as c:a;}");
        int[] v = new int[8];
        for (int i = 0; i < 8; i++) {
            v[i] = x.whole(10 + i);
        }
        int k = x.make(0, v[0], v[1], v[2], v[3]);
        int m = x.make(0, v[4], v[5], v[6], v[7]);
        int no = x.nothing();
        for (int by = 0; by < 2; by++) {
            due("8 NAMES", by == 0 ? x.sort(0, k, m, 0) : x.plain(0, k, m, 0), 0);
            due("the WHOLE that is bound", x.told(1), 17);
            for (int i = 0; i < 8; i++) {
                due("bound " + i, x.bound(i), v[i]);
            }
            due("bound 8", x.bound(8), NONE);
            due("bound -1", x.bound(-1), NONE);
            due("bound of the least", x.bound(LEAST), NONE);
            due("bound of the greatest", x.bound(GREATEST), NONE);
            due("3 NAMES", by == 0 ? x.sort(0, m, no, 0) : x.plain(0, m, no, 0), 1);
            int[] want = {v[4], m, no, NONE};
            for (int i = 0; i < 4; i++) {
                due("bound " + i, x.bound(i), want[i]);
            }
            due("no rule", by == 0 ? x.sort(0, no, no, 0) : x.plain(0, no, no, 0), NONE);
            due("bound of no rule", x.bound(0), NONE);
        }
    }

    private static void counts() {
        says("How many: 0 KINDS, 1 functions, 2 values, 3 bytes of THE TAPE, 4 LATE KINDS (told by add()). BAD.");
        LetterPost x = new LetterPost();
        int[] bad = {-1, 5, LEAST, GREATEST};
        int[][] want = {{0, 0, 0, 0, 0}, {2, 1, 0, 0, 0}, {3, 1, 1, 3, 1}};
        for (int step = 0; step < want.length; step++) {
            if (step == 1) {
                feedAll(x, "kind A;kind B under A;sort f(A){}");
                due("bytes", x.count(3), 33);
                x.read();
            } else if (step == 2) {
                late(x, "kind C under A;");
                late(x, "kind D under C;");
                x.nothing();
                x.remake(0, 0);
                feedAll(x, "abc");
            }
            for (int what = 0; what < 5; what++) {
                due("count " + what, x.count(what), want[step][what]);
            }
            for (int what : bad) {
                due("count " + what, x.count(what), BAD);
            }
        }
    }

    private static void newObject() {
        says("No text was read; no letters.");
        LetterPost used = atWork();
        LetterPost x = new LetterPost();
        due("no text", x.add(), NO);
        for (int what = 0; what < 5; what++) {
            due("count " + what, x.count(what), 0);
        }
        due("fault", x.fault(), 0);
        due("no letters", x.value(0, 0), NONE);
        due("no letters", x.alike(0, 0), BAD);
        due("no KIND", x.kind(0, 7), BAD);
        due("no function", x.function(0, 0), BAD);
        due("no function", x.missing(0), BAD);
        due("no sorting", x.sort(0, 0, 0, 0), BAD);
        due("the first letter", x.whole(1), 0);
        due("a text can be read", x.read(), 0);
        due("another object has its own", used.count(2), 7);
    }

    public static void main(String[] args) {
        newObject();
        tape();
        text();
        faults();
        lateKinds();
        refusedCalls();
        kinds();
        functions();
        nodes();
        treeEdges();
        anew();
        manyPlaces();
        ways();
        branches();
        judged();
        letterCounts();
        letterKinds();
        made();
        values();
        fitting();
        guards();
        spent();
        askedGuards();
        lateLetters();
        sorting();
        bound();
        counts();
        System.out.println(wrong == 0 ? "all answers are as due" : wrong + " answers are not as due");
        if (wrong != 0) {
            System.exit(1);
        }
    }
}
