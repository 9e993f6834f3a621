/** Each promise, told by its number: ordinary inputs, the edges that the document names, wrong inputs. */
public final class PromiseTest {
    private static final int BAD = LetterPost.BAD;
    private static final int NO = LetterPost.NO;
    private static final int FULL = LetterPost.FULL;
    private static final int NONE = LetterPost.NONE;
    private static int wrong = 0;
    private static int promise = 0;

    private static void due(String call, long got, long want) {
        if (got != want) {
            wrong++;
            System.out.println("promise " + promise + ": " + call + " answered " + got + ", due is " + want);
        }
    }

    private static void feedAll(LetterPost x, String text) {
        for (int i = 0; i < text.length(); i++) {
            x.feed(text.charAt(i), 1);
        }
    }

    private static LetterPost read(String text, int functions) {
        LetterPost x = new LetterPost();
        feedAll(x, text);
        due("read " + text, x.read(), functions);
        return x;
    }

    private static int late(LetterPost x, String text) {
        feedAll(x, text);
        return x.add();
    }

    private static long packed(String s) {
        long w = 0;
        for (int i = 0; i < s.length(); i++) {
            w = w << 8 | s.charAt(i);
        }
        return w;
    }

    /** What a tree is, node by node: N none, A1 answer of rule 1, G2 guard, K0.1 test of a KIND at part 1, one deep. */
    private static String tree(LetterPost x, int f) {
        StringBuilder s = new StringBuilder();
        for (int n = 0; n < x.function(f, 3); n++) {
            int what = x.node(f, n, 0);
            s.append(n == 0 ? "" : " ").append("NAGKBTW".charAt(what));
            s.append(what == 0 ? "" : what < 3 ? String.valueOf(x.node(f, n, 1)) : x.node(f, n, 3) + "." + x.node(f, n, 4));
            for (int i = 0; i < x.node(f, n, 2); i++) {
                s.append(i == 0 ? "[" : ",").append(x.branch(f, n, i));
            }
            s.append(x.node(f, n, 2) > 0 ? "]" : "");
        }
        return s.toString();
    }

    private static void dueTree(LetterPost x, int f, String want) {
        String got = tree(x, f);
        if (!got.equals(want)) {
            wrong++;
            System.out.println("promise " + promise + ": tree " + got + ", due is " + want);
        }
    }

    private static void dueTold(LetterPost x, int... want) {
        for (int i = 0; i < want.length; i++) {
            due("told " + i, x.told(i), want[i]);
        }
    }

    private static void newObject() {
        promise = 1;
        LetterPost x = new LetterPost();
        for (int i = 0; i < 5; i++) {
            due("count " + i, x.count(i), 0);
        }
        due("fault", x.fault(), 0);
        due("kind", x.kind(0, 0), BAD);
        due("kindNamed", x.kindNamed(0), NONE);
        due("function", x.function(0, 0), BAD);
        due("value", x.value(0, 0), NONE);
        due("add", x.add(), NO);
        due("remake", x.remake(0, 0), BAD);
        dueTold(x, 0, 0, 0, 0, 0, 0, 0);
        due("guard", x.guard(0), NONE);
        due("bound", x.bound(0), NONE);
        due("read", x.read(), 0);
        LetterPost other = new LetterPost();
        other.whole(1);
        due("values of another object", x.count(2), 0);
    }

    private static void feed() {
        promise = 2;
        LetterPost x = new LetterPost();
        due("0 bytes", x.feed(1, 0), BAD);
        due("9 bytes", x.feed(1, 9), BAD);
        due("-1 bytes", x.feed(1, -1), BAD);
        due("the least", x.feed(1, Integer.MIN_VALUE), BAD);
        due("8 bytes", x.feed(packed("kind Abc"), 8), 8);
        due("1 of more", x.feed(packed("kind;"), 1), 9);
        due("read", x.read(), 0);
        due("kind", x.kindNamed(packed("Abc")), 0);
        due("tape", x.count(3), 0);
        for (int i = 1; i < 200; i++) {
            x.feed(0x2020202020202020L, 8);
        }
        due("1600", x.feed(0x2020202020202020L, 8), 1600);
        due("1601", x.feed(32, 1), FULL);
        due("BAD ahead of FULL", x.feed(32, 0), BAD);
        due("tape", x.count(3), 1600);
        LetterPost y = new LetterPost();
        for (int i = 0; i < 199; i++) {
            y.feed(0x2020202020202020L, 8);
        }
        due("1597", y.feed(0x2020202020L, 5), 1597);
        due("4 more", y.feed(0x20202020L, 4), FULL);
        due("3 more", y.feed(0x20203bL, 3), 1600);
        due("read of 1600", y.read(), -10 - 1599);
        due("fault", y.fault(), 2);
    }

    private static void read() {
        promise = 3;
        LetterPost x = read("kind A;sort f(A){}sort g(whole){n:1;}", 2);
        due("read again", x.read(), NO);
        feedAll(x, "kind B;");
        due("read again", x.read(), NO);
        due("tape stays by NO", x.count(3), 7);
        due("functions", x.count(1), 2);
        due("only blanks", read(" \n ", 0).read(), NO);
        String large = "sort f(whole,whole,whole){1..2,1..2,1..2:1;4..5,4..5,4..5:1;7..8,7..8,7..8:1;10,10,10:1;12,12,12:1;";
        LetterPost y = new LetterPost();
        y.whole(5);
        feedAll(y, large + "_,13,13:1;_,14,14:1;_,15,16:2;_,17,18:2;_,19,19:1;_,21,21:1;_,23,24:3;}");
        due("too large", y.read(), FULL);
        due("fault of FULL", y.fault(), 0);
        due("tape of FULL", y.count(3), 0);
        due("functions of FULL", y.count(1), 0);
        due("function of FULL", y.function(0, 0), BAD);
        due("values of FULL", y.value(0, 1), 5);
        feedAll(y, "kind A;kind A;");
        due("fault", y.read(), -22);
        due("kinds of a fault", y.count(0), 0);
        feedAll(y, "kind A;");
        due("behind a fault", y.read(), 0);
        due("kinds", y.count(0), 1);
        edgeOf120();
    }

    /** 40 numbers apart make 81 branches behind the root; each that is guarded makes one node more. */
    private static void edgeOf120() {
        LetterPost x = read(ladder(38), 1);
        due("120 nodes", x.function(0, 3), 1 + 81 + 38);
        due("120 nodes", x.remake(0, 2), 120);
        due("82 nodes without guards", read(ladder(0), 1).function(0, 3), 82);
        LetterPost y = new LetterPost();
        feedAll(y, ladder(39));
        due("121 nodes", y.read(), FULL);
        due("fault", y.fault(), 0);
    }

    private static String ladder(int guarded) {
        StringBuilder s = new StringBuilder("sort f(whole){");
        int made = 0;
        while (made < 40) {
            int end = Math.min(made + 6, made < guarded ? guarded : 40);
            String sign = "(";
            boolean guard = made < guarded;
            for (; made < end; made++) {
                s.append(sign).append(made * 2 + 1);
                sign = "|";
            }
            s.append(guard ? ")if 1<2:1;" : "):1;");
        }
        return s.append("}").toString();
    }

    private static void fault() {
        promise = 4;
        LetterPost x = new LetterPost();
        due("none asked", x.fault(), 0);
        feedAll(x, "#");
        due("read", x.read(), -10);
        due("fault", x.fault(), 1);
        due("add is refused", x.add(), NO);
        due("fault behind NO", x.fault(), 1);
        feedAll(x, "kind A;kind B under A;");
        due("read", x.read(), 0);
        due("none", x.fault(), 0);
        due("add", late(x, "kind C;"), -16);
        due("fault of add", x.fault(), 2);
        due("add", late(x, "kind C under A;"), 2);
        due("none of add", x.fault(), 0);
    }

    private static void add() {
        promise = 5;
        LetterPost x = new LetterPost();
        feedAll(x, "kind C under A;");
        due("no text", x.add(), NO);
        due("tape stays", x.count(3), 15);
        due("read", x.read(), -23);
        x = read("kind A;kind B under A;kind D;sort f(A){B:1;_:2;}", 1);
        due("add", late(x, "kind C under A(whole,C,text,A);"), 3);
        due("under", x.kind(3, 0), 0);
        due("parts", x.kind(3, 2), 4);
        due("itself", x.kind(3, 4), 3 + 3);
        due("LATE", x.kind(3, 7), 1);
        due("tape", x.count(3), 0);
        due("again", late(x, "kind C under A;"), -15);
        due("fault", x.fault(), 3);
        due("under a LEAF", late(x, "kind E under D;"), -23);
        due("fault", x.fault(), 5);
        due("under a LATE LEAF", late(x, "kind E under C;"), -23);
        due("fault", x.fault(), 5);
        due("a fault behind takes it back", late(x, "kind E under A(whole;"), -10 - 20);
        due("kinds", x.count(0), 4);
        due("E", x.kindNamed('E'), NONE);
        due("E comes", late(x, "kind E under A;"), 4);
        due("no parts", x.kind(4, 2), 0);
        due("late", x.count(4), 2);
    }

    private static void remake() {
        promise = 6;
        LetterPost x = read("kind A;kind B under A;sort f(A,truth,whole){B,true,1:1;_,true,_:2;_,_,5..9:3;}", 1);
        due("nodes", x.remake(0, 1), x.function(0, 3));
        due("way", x.function(0, 4), 1);
        due("root by 1 is asked by most rows", x.node(0, 0, 4), 1);
        x.remake(0, 2);
        due("root by 2 has the fewest branches, the first of like ones", x.node(0, 0, 4), 0);
        x.remake(0, 3);
        due("root by 3 is the last", x.node(0, 0, 4), 2);
        x.remake(0, 0);
        due("root by 0 is the first", x.node(0, 0, 4), 0);
        late(x, "kind C under A;");
        x.remake(0, 2);
        due("root by 2 when a KIND has three", x.node(0, 0, 4), 1);
        due("no such way", x.remake(0, 4), BAD);
        due("no such way", x.remake(0, -1), BAD);
        due("no such function", x.remake(1, 0), BAD);
        due("no such function", x.remake(-1, 0), BAD);
        due("way stays by BAD", x.function(0, 4), 2);
        grownTooLarge();
    }

    private static void grownTooLarge() {
        LetterPost x = read("kind A;kind B under A;sort f(A,A,A){B,B,B:1;_,none,B:2;}", 1);
        int before = x.remake(0, 2);
        for (int i = 0; i < 20; i++) {
            due("add", late(x, "kind C" + i + " under A;"), 2 + i);
        }
        due("too large", x.remake(0, 0), FULL);
        due("the tree stays", x.function(0, 3), before);
        due("the way stays", x.function(0, 4), 2);
        due("still LATE", x.kind(2, 7), 1);
        due("missing is FULL", x.missing(0), FULL);
        due("unreached is FULL", x.unreached(0, 0), FULL);
        due("unreached BAD ahead of FULL", x.unreached(0, 2), BAD);
        int c = x.make(2, 0, 0, 0, 0);
        due("the tree ahead sorts", x.sort(0, c, c, c), NONE);
        dueTold(x, 2, 0, 1, 1, 0, 0, NONE);
    }

    private static void kind() {
        promise = 7;
        LetterPost x = read("kind A;kind B under A;kind C under B(whole,truth,text,A);kind D under B;kind E(E);sort f(A){}", 1);
        due("under none", x.kind(0, 0), NONE);
        due("under", x.kind(2, 0), 1);
        due("SEALED", x.kind(0, 1), 1);
        due("SEALED", x.kind(1, 1), 1);
        due("LEAF", x.kind(2, 1), 0);
        due("LEAF", x.kind(4, 1), 0);
        due("no parts", x.kind(0, 2), 0);
        due("parts", x.kind(2, 2), 4);
        for (int i = 0; i < 4; i++) {
            due("part", x.kind(2, 3 + i), i);
        }
        due("part itself", x.kind(4, 3), 7);
        due("no part", x.kind(4, 4), NONE);
        due("no part", x.kind(0, 3), NONE);
        due("no part", x.kind(0, 6), NONE);
        due("not LATE", x.kind(2, 7), 0);
        due("no such KIND", x.kind(5, 0), BAD);
        due("no such KIND", x.kind(-1, 0), BAD);
        due("no such what", x.kind(0, 8), BAD);
        due("no such what", x.kind(0, -1), BAD);
        late(x, "kind F under A;");
        due("LATE", x.kind(5, 7), 1);
        x.remake(0, 0);
        due("taken in", x.kind(5, 7), 0);
        due("still told by add", x.count(4), 1);
        LetterPost y = read("kind A;kind B under A;", 0);
        due("add", late(y, "kind C under A;"), 2);
        due("LATE without functions", y.kind(2, 7), 0);
        LetterPost z = read("kind A;kind B under A;sort f(A){}sort g(A){B:1;}", 2);
        late(z, "kind C under A;");
        z.remake(1, 0);
        due("LATE for the first function", z.kind(2, 7), 1);
    }

    private static void kindNamed() {
        promise = 8;
        LetterPost x = read("kind A;kind Abcdefgh;kind A0;", 0);
        due("A", x.kindNamed('A'), 0);
        due("8 bytes", x.kindNamed(packed("Abcdefgh")), 1);
        due("A0", x.kindNamed(packed("A0")), 2);
        due("B", x.kindNamed('B'), NONE);
        due("0s behind", x.kindNamed((long) 'A' << 8), NONE);
        due("0", x.kindNamed(0), NONE);
        due("-1", x.kindNamed(-1), NONE);
    }

    private static void function() {
        promise = 9;
        LetterPost x = read("kind A;sort f(A,whole){A,(1|2|5..6):1;(_|none),(3|4):2;}sort g(text){}sort h(truth){b:1;}", 3);
        due("columns", x.function(0, 0), 2);
        due("rules", x.function(0, 1), 2);
        due("rows", x.function(0, 2), 7);
        due("way", x.function(0, 4), 0);
        due("sort 0", x.function(0, 6), 3);
        due("sort 1", x.function(0, 7), 0);
        due("sort 2", x.function(0, 8), NONE);
        due("no rules", x.function(1, 1), 0);
        due("no rows", x.function(1, 2), 0);
        due("a NONE node", x.function(1, 3), 1);
        due("depth of one", x.function(1, 5), 1);
        due("nothing to test", x.function(2, 3), 1);
        due("no such what", x.function(0, 9), BAD);
        due("no such what", x.function(0, -1), BAD);
        due("no such function", x.function(3, 0), BAD);
        due("no such function", x.function(-1, 0), BAD);
    }

    private static void nodes() {
        promise = 10;
        LetterPost x = read("kind A;kind B under A(truth,text);kind C under A;"
            + "sort f(A,whole){B(true,'b'),n if n<1:1;B(_,'a'),_:2;C,3..4:3;_,0:4;}", 1);
        dueTree(x, 0, "K0.0[1,5,23] W0.1[2,3,4] N A3 N B1.0[6,12] T1.1[7,8] A1 W0.1[9,10,11] N A3 N "
            + "T1.1[13,18,19] G0[14] W0.1[15,16,17] N A3 N A1 W0.1[20,21,22] N A3 N W0.1[24,25,26,27,28] N A3 N A2 N");
        due("depth", x.function(0, 5), 6);
        due("what", x.node(0, 0, 0), 3);
        due("rule of a TEST", x.node(0, 0, 1), NONE);
        due("branches", x.node(0, 0, 2), 3);
        due("rule of GUARD", x.node(0, 13, 1), 0);
        due("branches of GUARD", x.node(0, 13, 2), 1);
        due("place of GUARD", x.node(0, 13, 3), NONE);
        due("place of ANSWER", x.node(0, 7, 4), NONE);
        due("branches of ANSWER", x.node(0, 7, 2), 0);
        due("rule of NONE", x.node(0, 2, 1), NONE);
        due("place of NONE", x.node(0, 2, 3), NONE);
        due("no such node", x.node(0, 29, 0), BAD);
        due("no such node", x.node(0, -1, 0), BAD);
        due("no such what", x.node(0, 0, 5), BAD);
        due("no such what", x.node(0, 0, -1), BAD);
        due("no such function", x.node(1, 0, 0), BAD);
        promise = 11;
        due("branch", x.branch(0, 0, 0), 1);
        due("branch", x.branch(0, 0, 2), 23);
        due("branch of GUARD", x.branch(0, 13, 0), 14);
        due("branch beyond", x.branch(0, 0, 3), BAD);
        due("branch beyond", x.branch(0, 13, 1), BAD);
        due("branch beyond", x.branch(0, 0, -1), BAD);
        due("branch of ANSWER", x.branch(0, 7, 0), BAD);
        due("branch of NONE", x.branch(0, 2, 0), BAD);
        due("no such node", x.branch(0, 29, 0), BAD);
        due("no such node", x.branch(0, -1, 0), BAD);
        due("no such function", x.branch(1, 0, 0), BAD);
    }

    private static void rowsTurn() {
        promise = 10;
        LetterPost x = read("sort f(text,text){('a'|'b') as x,('c'|'d'):1;}", 1);
        due("rows", x.function(0, 2), 4);
        dueTree(x, 0, "T0.0[1,5,9] T0.1[2,3,4] A0 A0 N T0.1[6,7,8] A0 A0 N N");
        LetterPost y = read("sort f(truth,truth){(true|false),b if 1>2:1;_,_:2;}", 1);
        dueTree(y, 0, "B0.0[1,3] G0[2] A1 G0[4] A1");
        LetterPost z = read("sort f(whole){1..5:1;3..9:2;5:3;}", 1);
        dueTree(z, 0, "W0.0[1,2,3,4,5,6] N A0 A0 A0 A1 N");
        LetterPost s = read("sort f(whole){1..5:1;0..9:2;}", 1);
        dueTree(s, 0, "W0.0[1,2,3,4,5] N A1 A0 A1 N");
    }

    private static void missing() {
        promise = 12;
        LetterPost x = read("kind A;kind B under A;kind C under A;sort f(A){B:1;C:2;none:3;}sort g(A){B:1;C:2;}"
            + "sort h(truth){true:1;b if 1=1:2;}sort i(whole){}sort j(whole){n:1;}sort k(text){'a':1;t:2;}sort l(A){A:1;none:2;}", 7);
        int[] want = {0, 1, 1, 1, 0, 0, 0};
        for (int f = 0; f < 7; f++) {
            due("missing " + f, x.missing(f), want[f]);
        }
        due("no such function", x.missing(7), BAD);
        due("no such function", x.missing(-1), BAD);
        late(x, "kind D under A;");
        due("LEAVES as now", x.missing(0), 1);
        due("all of a SEALED", x.missing(6), 0);
        due("the tree is as it was", x.function(0, 3), 4);
    }

    private static void unreached() {
        promise = 13;
        LetterPost x = read("kind A;kind B under A;kind C under A;"
            + "sort f(A){B:1;C:2;none:3;_:4;}sort g(whole){n if 1<2:1;n:2;_:3;5:4;}", 2);
        int[] f = {0, 0, 0, 1};
        int[] g = {0, 0, 1, 1};
        for (int r = 0; r < 4; r++) {
            due("unreached f " + r, x.unreached(0, r), f[r]);
            due("unreached g " + r, x.unreached(1, r), g[r]);
        }
        due("no such rule", x.unreached(0, 4), BAD);
        due("no such rule", x.unreached(0, -1), BAD);
        due("no such function", x.unreached(2, 0), BAD);
        late(x, "kind D under A;");
        due("LEAVES as now", x.unreached(0, 3), 0);
        x.remake(1, 3);
        due("by 0, whatever the WAY", x.unreached(1, 1), 0);
        due("the way is as it was", x.function(1, 4), 3);
    }

    private static void plainLetters() {
        promise = 14;
        LetterPost x = new LetterPost();
        due("whole", x.whole(Integer.MIN_VALUE), 0);
        due("whole", x.whole(Integer.MAX_VALUE), 1);
        due("the least", x.value(0, 1), Integer.MIN_VALUE);
        due("the greatest", x.value(1, 1), Integer.MAX_VALUE);
        promise = 15;
        due("truth", x.truth(0), 2);
        due("truth", x.truth(-5), 3);
        due("false", x.value(2, 1), 0);
        due("true", x.value(3, 1), 1);
        promise = 16;
        due("none", x.letters(0), 4);
        due("8", x.letters(packed("zzzzzzzz")), 5);
        due("1", x.letters('a'), 6);
        due("none has 0", x.value(4, 1), 0);
        due("8 letters", x.value(5, 1), 8);
        due("1 letter", x.value(6, 1), 1);
        due("ahead of a", x.letters('a' - 1), BAD);
        due("behind z", x.letters('z' + 1), BAD);
        due("a 0 within", x.letters('a' << 16 | 'b'), BAD);
        due("a 0 behind", x.letters('a' << 8), BAD);
        due("capital", x.letters('A'), BAD);
        due("-1", x.letters(-1), BAD);
        promise = 17;
        due("nothing", x.nothing(), 7);
        due("what", x.value(7, 0), 3);
        due("its KIND", x.value(7, 1), NONE);
        due("its size", x.value(7, 2), 1);
        for (int i = 8; i < 160; i++) {
            due("whole", x.whole(i), i);
        }
        due("the 161st", x.nothing(), FULL);
        promise = 14;
        due("the 161st", x.whole(0), FULL);
        promise = 15;
        due("the 161st", x.truth(0), FULL);
        promise = 16;
        due("the 161st", x.letters(0), FULL);
        due("BAD ahead of FULL", x.letters(1), BAD);
        promise = 26;
        due("values", x.count(2), 160);
    }

    private static void make() {
        promise = 18;
        LetterPost x = read("kind A;kind B under A(whole,A);kind C under A(truth,text);kind D;", 0);
        due("whole", x.whole(4), 0);
        due("nothing", x.nothing(), 1);
        due("SEALED", x.make(0, 0, 0, 0, 0), BAD);
        due("no KIND", x.make(4, 0, 0, 0, 0), BAD);
        due("no KIND", x.make(-1, 0, 0, 0, 0), BAD);
        due("B", x.make(1, 0, 1, -1, 99), 2);
        due("B in B", x.make(1, 0, 2, 0, 0), 3);
        due("another SORT", x.make(1, 1, 2, 0, 0), BAD);
        due("another SORT", x.make(1, 0, 0, 0, 0), BAD);
        due("no value", x.make(1, 4, 2, 0, 0), BAD);
        due("no value", x.make(1, 0, 4, 0, 0), BAD);
        due("no value", x.make(1, -1, 1, 0, 0), BAD);
        due("D", x.make(3, -1, -1, -1, -1), 4);
        due("not UNDER it", x.make(1, 0, 4, 0, 0), BAD);
        due("NOTHING is of no LEAF", x.make(2, 1, 1, 0, 0), BAD);
        due("values", x.count(2), 5);
        sizes();
    }

    private static void sizes() {
        LetterPost x = read("kind S;kind P under S(S,S,S,S);kind Q under S(S);", 0);
        int nil = x.nothing();
        int two = x.make(2, nil, 0, 0, 0);
        int three = x.make(2, two, 0, 0, 0);
        int five = x.make(1, nil, nil, nil, nil);
        int many = x.make(1, five, five, five, five);
        due("21", x.value(many, 2), 21);
        int more = x.make(1, many, many, five, five);
        due("53", x.value(more, 2), 53);
        due("61", x.make(1, more, three, two, two), FULL);
        due("60", x.make(1, more, two, two, two), 6);
        due("size", x.value(6, 2), 60);
        due("61 by one", x.make(2, 6, 0, 0, 0), FULL);
        due("BAD ahead of FULL", x.make(1, 6, 6, 6, 7), BAD);
        due("values", x.count(2), 7);
        for (int i = 7; i < 160; i++) {
            x.nothing();
        }
        due("the 161st", x.make(2, nil, 0, 0, 0), FULL);
        due("BAD ahead of FULL", x.make(0, nil, 0, 0, 0), BAD);
    }

    private static void value() {
        promise = 19;
        LetterPost x = read("kind A;kind B under A(whole,A,truth);", 0);
        x.whole(-3);
        x.truth(1);
        x.letters(packed("abc"));
        x.nothing();
        x.make(1, 0, 3, 1, 0);
        int[][] want = {{0, -3, 1, NONE}, {1, 1, 1, NONE}, {2, 3, 1, NONE}, {3, NONE, 1, NONE}, {4, 1, 4, 0, 3, 1, NONE}};
        for (int v = 0; v < want.length; v++) {
            for (int what = 0; what < want[v].length; what++) {
                due("value " + v + " " + what, x.value(v, what), want[v][what]);
            }
        }
        due("no such value", x.value(5, 0), NONE);
        due("no such value", x.value(-1, 0), NONE);
        due("no such what", x.value(4, 7), NONE);
        due("no such what", x.value(4, -1), NONE);
        due("no such what", x.value(0, Integer.MAX_VALUE), NONE);
    }

    private static void alike() {
        promise = 20;
        LetterPost x = read("kind A;kind B under A(A);kind C under A(A);", 0);
        x.whole(0);
        x.truth(0);
        x.letters(0);
        x.nothing();
        x.nothing();
        x.make(1, 3, 0, 0, 0);
        x.make(1, 4, 0, 0, 0);
        x.make(2, 3, 0, 0, 0);
        x.make(1, 5, 0, 0, 0);
        x.make(1, 6, 0, 0, 0);
        x.make(1, 7, 0, 0, 0);
        x.whole(0);
        int[][] same = {{0, 11}, {3, 4}, {5, 6}, {8, 9}, {2, 2}};
        for (int[] pair : same) {
            due("alike " + pair[0] + " " + pair[1], x.alike(pair[0], pair[1]), 1);
            due("alike " + pair[1] + " " + pair[0], x.alike(pair[1], pair[0]), 1);
        }
        int[][] other = {{0, 1}, {1, 2}, {2, 3}, {5, 7}, {8, 10}, {5, 8}, {3, 5}};
        for (int[] pair : other) {
            due("alike " + pair[0] + " " + pair[1], x.alike(pair[0], pair[1]), 0);
        }
        due("no such value", x.alike(0, 12), BAD);
        due("no such value", x.alike(12, 0), BAD);
        due("no such value", x.alike(-1, 0), BAD);
    }

    private static final String SORTING = "kind A;kind B under A(whole,A);kind C under A;"
        + "sort f(A){B(n,B(m,_) as r) if n>m:g(n,r);B(n,_) if 10/n<4:n;C as c:h(c);(B(n,C as c)|B(n,c)):g(n,c);}"
        + "sort g(whole,A){0,_:7;n,a if n=5:f(a);}sort h(A){a:h(a);}";

    private static void sorting() {
        promise = 21;
        LetterPost x = read(SORTING, 3);
        int nil = x.nothing();
        int c = x.make(2, 0, 0, 0, 0);
        int w5 = x.whole(5);
        int w0 = x.whole(0);
        int w1 = x.whole(1);
        int b5 = x.make(1, w5, c, 0, 0);
        int b1 = x.make(1, w1, nil, 0, 0);
        int b0 = x.make(1, w0, c, 0, 0);
        int b51 = x.make(1, w5, b1, 0, 0);
        int b11 = x.make(1, w1, b1, 0, 0);
        due("no letter", x.sort(0, 99, 0, 0), BAD);
        due("no letter", x.sort(0, -1, 0, 0), BAD);
        due("another SORT", x.sort(0, w5, 0, 0), BAD);
        due("another SORT", x.sort(1, w5, w5, 0), BAD);
        due("no such function", x.sort(3, nil, 0, 0), BAD);
        due("no such function", x.sort(-1, nil, 0, 0), BAD);
        dueTold(x, 0, 0, 0, 0, 0, 0, 0);
        for (int by = 0; by < 2; by++) {
            promise = 21 + by;
            boolean trees = by == 0;
            due("its WHOLE", run(x, trees, 0, b5), 1);
            dueTold(x, 0, 5, 1, trees ? 2 : 0, 1, 0, 1);
            due("guard 0", x.guard(0), 1);
            due("guard 1", x.guard(1), NONE);
            due("bound 0", x.bound(0), w5);
            due("bound 1", x.bound(1), NONE);
            due("bound -1", x.bound(-1), NONE);
            due("a guard THREW", run(x, trees, 0, b0), NONE);
            dueTold(x, 3, 0, 1, trees ? 2 : 0, 1, 0, 1);
            due("bound of none", x.bound(0), NONE);
            due("no rule", run(x, trees, 0, nil), NONE);
            dueTold(x, 1, 0, 1, trees ? 1 : 0, 0, 0, NONE);
            due("SPENT", run(x, trees, 0, c), 2);
            dueTold(x, 4, 0, 100, trees ? 1 : 0, 0, 2, NONE);
            due("bound", x.bound(0), c);
            due("handed over", run(x, trees, 0, b51), 0);
            due("outcome", x.told(0), 1);
            due("begun", x.told(2), 4);
            due("the function without a rule", x.told(5), 1);
            due("guards", x.told(4), 4);
            int[] asked = {0, 101, 1, 101};
            for (int i = 0; i < 4; i++) {
                due("guard " + i, x.guard(i), asked[i]);
            }
            due("bound n", x.bound(0), w5);
            due("bound m", x.bound(1), w1);
            due("bound r", x.bound(2), b1);
            due("no rule behind it", run(x, trees, 0, b11), 3);
            dueTold(x, 1, 0, 2, x.told(3), 3, 1, NONE);
            due("bound by the second alternative", x.bound(1), b1);
            due("BAD changes nothing", run(x, trees, 0, w5), BAD);
            due("still", x.bound(1), b1);
            due("still", x.told(0), 1);
        }
        promise = 23;
        due("no such what", x.told(7), BAD);
        due("no such what", x.told(-1), BAD);
    }

    private static int run(LetterPost x, boolean trees, int f, int a) {
        return trees ? x.sort(f, a, -7, 1000) : x.plain(f, a, -7, 1000);
    }

    private static void manyGuards() {
        promise = 24;
        LetterPost x = read("sort f(whole){n if n<0:1;n if n>0:g(n);_:3;}sort g(whole){n if n=0:1;n:f(n);}", 2);
        int w = x.whole(1);
        due("SPENT", x.sort(0, w, 0, 0), 1);
        dueTold(x, 4, 0, 100, 0, 150, 1, NONE);
        int[] asked = {0, 1, 100};
        for (int i = 0; i < 32; i++) {
            due("guard " + i, x.guard(i), asked[i % 3]);
        }
        due("32 are kept", x.guard(32), NONE);
        due("guard -1", x.guard(-1), NONE);
        due("plain", x.plain(0, w, 0, 0), 1);
        dueTold(x, 4, 0, 100, 0, 150, 1, NONE);
        due("less", x.plain(0, x.whole(-1), 0, 0), 0);
        due("told anew", x.told(4), 1);
        due("guard 0", x.guard(0), 0);
        due("guard 1", x.guard(1), NONE);
    }

    private static void sums() {
        promise = 22;
        String[] guards = {"a+b<0", "a-b>0", "a*b=0-b", "a/b=-3", "a%b=-1", "b%a=2", "a/-1=a", "-1=-1", "b/3=0", "a*a=1"};
        int[][] pairs = {{Integer.MAX_VALUE, 1}, {Integer.MIN_VALUE, 1}, {-1, 7}, {-7, 2}, {-7, 2}, {-7, 2},
            {Integer.MIN_VALUE, 0}, {0, 0}, {0, -2}, {Integer.MAX_VALUE, 0}};
        for (int i = 0; i < guards.length; i++) {
            LetterPost x = read("sort f(whole,whole){a,b if " + guards[i] + ":1;_,_:2;}", 1);
            int a = x.whole(pairs[i][0]);
            int b = x.whole(pairs[i][1]);
            due("sort by " + guards[i], x.sort(0, a, b, 0), 0);
            due("plain by " + guards[i], x.plain(0, a, b, 0), 0);
        }
        String[] throwing = {"a/b=0", "1=a%b", "a/0<1", "1%0=1", "b<a/b"};
        for (String guard : throwing) {
            LetterPost x = read("sort f(whole,whole){a,b if " + guard + ":1;_,_:2;}", 1);
            int a = x.whole(5);
            int b = x.whole(0);
            due("sort by " + guard, x.sort(0, a, b, 0), NONE);
            dueTold(x, 3, 0, 1, 0, 1, 0, 0);
            due("plain by " + guard, x.plain(0, a, b, 0), NONE);
            dueTold(x, 3, 0, 1, 0, 1, 0, 0);
        }
    }

    private static void lateKinds() {
        promise = 22;
        LetterPost x = read("kind A;kind B under A;kind C under A(A);sort f(A){C(B):1;C(_):2;A:3;none:4;}", 1);
        int d = late(x, "kind D under A;");
        int late = x.make(d, 0, 0, 0, 0);
        int within = x.make(2, late, 0, 0, 0);
        due("LATE by the tree", x.sort(0, late, 0, 0), NONE);
        dueTold(x, 2, 0, 1, 1, 0, 0, NONE);
        due("as it is now", x.plain(0, late, 0, 0), 2);
        dueTold(x, 0, 3, 1, 0, 0, 0, 2);
        due("LATE within", x.sort(0, within, 0, 0), NONE);
        dueTold(x, 2, 0, 1, 2, 0, 0, NONE);
        due("as it is now", x.plain(0, within, 0, 0), 1);
        x.remake(0, 0);
        due("taken in", x.sort(0, late, 0, 0), 2);
        due("taken in", x.sort(0, within, 0, 0), 1);
        LetterPost y = read("kind A;kind B under A;sort f(A){_:1;}sort g(A,truth){a,true:f(a);B,_:2;}", 2);
        int k = y.make(late(y, "kind C under A;"), 0, 0, 0, 0);
        due("a LATE one that is not asked for", y.sort(0, k, 0, 0), 0);
        due("not asked for", y.sort(1, k, y.truth(1), 0), 0);
        due("answer", y.told(1), 1);
        due("asked for", y.sort(1, k, y.truth(0), 0), NONE);
        due("outcome", y.told(0), 2);
    }

    private static void bound() {
        promise = 25;
        LetterPost x = read("kind A;kind B under A(whole,whole);"
            + "sort f(A,whole){(B(1 as p,q) as r|B(q,p) as r) as s,t as u:1;}", 1);
        int w1 = x.whole(1);
        int w2 = x.whole(2);
        int b12 = x.make(1, w1, w2, 0, 0);
        int b21 = x.make(1, w2, w1, 0, 0);
        int[][] want = {{b12, w1, w2}, {b21, w1, w2}};
        for (int[] one : want) {
            for (int by = 0; by < 2; by++) {
                due("fits", by == 0 ? x.sort(0, one[0], w2, 0) : x.plain(0, one[0], w2, 0), 0);
                due("p", x.bound(0), one[1]);
                due("q", x.bound(1), one[2]);
                due("r", x.bound(2), one[0]);
                due("s", x.bound(3), one[0]);
                due("t", x.bound(4), w2);
                due("u", x.bound(5), w2);
                due("none such", x.bound(6), NONE);
            }
        }
        due("no rule", x.sort(0, x.nothing(), w1, 0), NONE);
        due("bound of no rule", x.bound(0), NONE);
    }

    private static void deepest() {
        promise = 25;
        LetterPost x = read("kind L(whole,L);sort f(L,whole,L){L(_,L(_,L(_,L(_,L(e,d as g))))),(((((h as i))))),(none as a|L as a) as b:e;}", 1);
        int nil = x.nothing();
        int inner = nil;
        int number = -1;
        int d = -1;
        int e = -1;
        for (int i = 0; i < 5; i++) {
            number = x.whole(i);
            d = i == 0 ? inner : d;
            e = i == 0 ? number : e;
            inner = x.make(0, number, inner, 0, 0);
        }
        int[] want = {e, d, d, number, number, nil, nil};
        for (int by = 0; by < 2; by++) {
            due("fits", by == 0 ? x.sort(0, inner, number, nil) : x.plain(0, inner, number, nil), 0);
            dueTold(x, 0, 0, 1, by == 0 ? 6 : 0, 0, 0, 0);
            for (int i = 0; i < want.length; i++) {
                due("bound " + i, x.bound(i), want[i]);
            }
            due("too short", by == 0 ? x.sort(0, d, number, nil) : x.plain(0, d, number, nil), NONE);
        }
        LetterPost y = read("kind K(whole,whole,whole,whole);sort f(K,K){K(a,b,c,d),K(e,g,h,i) if a<i:i;}", 1);
        int[] v = new int[8];
        for (int i = 0; i < 8; i++) {
            v[i] = y.whole(i);
        }
        int k = y.make(0, v[0], v[1], v[2], v[3]);
        int m = y.make(0, v[4], v[5], v[6], v[7]);
        for (int by = 0; by < 2; by++) {
            due("8 names", by == 0 ? y.sort(0, k, m, 0) : y.plain(0, k, m, 0), 0);
            due("the 8th", y.told(1), 7);
            for (int i = 0; i < 8; i++) {
                due("bound " + i, y.bound(i), v[i]);
            }
            due("bound 8", y.bound(8), NONE);
        }
    }

    private static void count() {
        promise = 26;
        LetterPost x = read("kind A;kind B under A;sort f(A){}", 1);
        late(x, "kind C under A;");
        x.nothing();
        feedAll(x, "abc");
        int[] want = {3, 1, 1, 3, 1};
        for (int i = 0; i < 5; i++) {
            due("count " + i, x.count(i), want[i]);
        }
        due("no such what", x.count(5), BAD);
        due("no such what", x.count(-1), BAD);
    }

    public static void main(String[] args) {
        newObject();
        feed();
        read();
        fault();
        add();
        remake();
        kind();
        kindNamed();
        function();
        nodes();
        rowsTurn();
        missing();
        unreached();
        plainLetters();
        make();
        value();
        alike();
        sorting();
        manyGuards();
        sums();
        lateKinds();
        bound();
        deepest();
        count();
        System.out.println(wrong == 0 ? "all answers are as due" : wrong + " answers are not as due");
        if (wrong != 0) {
            System.exit(1);
        }
    }
}
