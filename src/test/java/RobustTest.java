import java.util.Random;

/** All promises: no call throws or fails to end, for any arguments in any state, and a refused call changes nothing. */
public final class RobustTest {
    private static final int[] EDGES = {Integer.MIN_VALUE, -5, -2, -1, 0, 1, 2, 3, 4, 5, 6, 7, 8, 9, 24, 39, 40, 119, 120, 159, 160,
        161, 1600, Integer.MAX_VALUE};
    private static final String[] TEXTS = {
        "kind A;kind B under A(whole,A);kind C under A(truth,text);kind D(D,D,D,D);"
            + "sort f(A){B(1..5,none):1;B(n,C as c)if n<9:f(c);C(true,'a'|'b'):3;none:4;}",
        "kind A;kind B under A(whole,A);kind C under A(truth,text);kind D(D,D,D,D);sort f(A,D){B(n,B(m,_)),D(_,D,none,_):n;"
            + "(B(n,_)|B(_,B(n,_))),_ if 10/n=2:n;a,d:g(a,d,d);}sort g(A,D,D){a,D,_:f(a,d);C(true,_),none,d:1;_,_,_:2;}",
        "sort f(whole,text){n,'ab' if n%3=n/2:n;1..9,t:g(t);(-5|-6) as n,_:n;_,'':0;}sort g(text){t:h(t);}sort h(text){'a':1;t:g(t);}",
        "kind A;kind B under A(A,A,A,A);sort f(A){B(B(_,none,_,B),none,B(none,_,_,B),_):1;B(_,_,_,B(x,_,_,_)):f(x);none:5;}",
        "sort f(whole){((((((1)))))):1;}", "kind", "sort f(whole){n:g(n);}", "'", "kind A;sort f(A){A(1):1;}"};
    private static int wrong = 0;

    private static int edge(Random r) {
        return r.nextInt(3) == 0 ? r.nextInt(6) : EDGES[r.nextInt(EDGES.length)];
    }

    private static void feedSome(LetterPost x, Random r) {
        String text = r.nextInt(6) == 0 ? "kind " + (char) ('E' + r.nextInt(9)) + " under A" + (r.nextInt(2) == 0 ? ";" : "(A);")
            : TEXTS[r.nextInt(TEXTS.length)];
        for (int i = 0; i < text.length(); i++) {
            int b = r.nextInt(900) == 0 ? r.nextInt(256) : text.charAt(i);
            x.feed(b, 1);
        }
    }

    private static int call(LetterPost x, Random r, int which) {
        int a = edge(r);
        int b = edge(r);
        int c = edge(r);
        int d = edge(r);
        int e = edge(r);
        long w = r.nextInt(2) == 0 ? r.nextLong() : a;
        switch (which) {
            case 0: return x.feed(w, a);
            case 1: return x.read();
            case 2: return x.fault();
            case 3: return x.add();
            case 4: return x.remake(a, b);
            case 5: return x.kind(a, b);
            case 6: return x.kindNamed(w);
            case 7: return x.function(a, b);
            case 8: return x.node(a, b, c);
            case 9: return x.branch(a, b, c);
            case 10: return x.missing(a);
            case 11: return x.unreached(a, b);
            case 12: return x.whole(a);
            case 13: return x.truth(a);
            case 14: return x.letters(w);
            case 15: return x.nothing();
            case 16: return x.make(a, b, c, d, e);
            case 17: return x.value(a, b);
            case 18: return x.alike(a, b);
            case 19: return x.sort(a, b, c, d);
            case 20: return x.plain(a, b, c, d);
            case 21: return x.told(a);
            case 22: return x.guard(a);
            case 23: return x.bound(a);
            default: return x.count(a);
        }
    }

    /** A number of all that can be asked without changing anything. */
    private static long state(LetterPost x) {
        long s = x.fault();
        for (int i = 0; i < 5; i++) {
            s = s * 31 + x.count(i);
        }
        for (int i = 0; i < 9; i++) {
            s = s * 31 + x.told(i) * 7 + x.guard(i) * 3 + x.bound(i);
            for (int k = 0; k < 6; k++) {
                s = s * 31 + x.kind(k, i) + 5 * x.function(k, i);
            }
        }
        return s;
    }

    private static void oneRun(long seed) {
        Random r = new Random(seed);
        LetterPost x = new LetterPost();
        for (int i = 0; i < 300; i++) {
            if (r.nextInt(40) == 0) {
                feedSome(x, r);
                if (r.nextInt(2) == 0) {
                    x.read();
                } else {
                    x.add();
                }
            }
            int which = r.nextInt(25);
            long before = state(x);
            int answer = call(x, r, which);
            boolean refused = (answer == LetterPost.BAD || answer == LetterPost.NO || answer == LetterPost.FULL)
                && which != 12 && which != 17 && !(which == 1 && answer == LetterPost.FULL) && which != 21;
            if (refused && state(x) != before) {
                wrong++;
                System.out.println("seed " + seed + ": a refused call " + which + " changed something");
            }
        }
    }

    public static void main(String[] args) {
        for (long seed = 0; seed < 3000; seed++) {
            try {
                oneRun(seed);
            } catch (RuntimeException | StackOverflowError e) {
                wrong++;
                System.out.println("seed " + seed + ": a call threw " + e);
            }
        }
        System.out.println(wrong == 0 ? "all answers are as due" : wrong + " answers are not as due");
        if (wrong != 0) {
            System.exit(1);
        }
    }
}
