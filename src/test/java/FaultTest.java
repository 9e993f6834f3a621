/**
 * The document's Terms, part 1: THE TAPE, TOKENS, KINDS and FAULTS. Each case stands behind the sentence that it tests:
 * the last text that is still taken, the first that is refused, and which FAULT is told where several are due.
 */
public final class FaultTest {
    private static int wrong = 0;
    private static String sentence = "";

    /** The sentence of the document that the cases behind this test. */
    private static void says(String words) {
        sentence = words;
    }

    private static void due(String what, long got, long want) {
        if (got != want) {
            wrong++;
            System.out.println("'" + sentence + "': " + what + " answered " + got + ", due is " + want);
        }
    }

    private static void feedAll(LetterPost x, String text) {
        for (int i = 0; i < text.length(); i += 8) {
            int n = Math.min(8, text.length() - i);
            long w = 0;
            for (int j = 0; j < n; j++) {
                w = w << 8 | text.charAt(i + j);
            }
            x.feed(w, n);
        }
    }

    private static void faultAt(int code, int place, String text) {
        LetterPost x = new LetterPost();
        feedAll(x, text);
        due("read " + text, x.read(), -10 - place);
        due("fault of " + text, x.fault(), code);
        due("tape behind " + text, x.count(3), 0);
        due("kinds behind " + text, x.count(0), 0);
        due("functions behind " + text, x.count(1), 0);
        due("add behind " + text, x.add(), LetterPost.NO);
        due("empty text behind " + text, x.read(), 0);
        due("fault behind an empty text", x.fault(), 0);
    }

    /** The text with a mark @ ahead of the byte where the fault is due. */
    private static void faulty(int code, String marked) {
        int at = marked.indexOf('@');
        faultAt(code, at, marked.substring(0, at) + marked.substring(at + 1));
    }

    private static void sound(int functions, String text) {
        LetterPost x = new LetterPost();
        feedAll(x, text);
        due("read " + text, x.read(), functions);
        due("fault of " + text, x.fault(), 0);
    }

    private static String times(String one, int n) {
        return one.repeat(n);
    }

    /** The text with % standing for 0, 1, .. in each of n pieces. */
    private static String many(String first, String one, int n, String last) {
        StringBuilder all = new StringBuilder(first);
        for (int i = 0; i < n; i++) {
            all.append(one.replace("%", String.valueOf(i)));
        }
        return all.append(last).toString();
    }

    private static boolean isSmall(int b) {
        return b >= 'a' && b <= 'z';
    }

    private static boolean isLarge(int b) {
        return b >= 'A' && b <= 'Z';
    }

    private static boolean isFigure(int b) {
        return b >= '0' && b <= '9';
    }

    private static boolean isBlank(int b) {
        return b == 32 || b == 10;
    }

    private static boolean isSign(int b) {
        return ";,(){}:|_<=>+-*/%".indexOf(b) >= 0;
    }

    /** Each byte alone, and each behind a KINDNAME, a NAME, a NUMBER and in a TEXT: its edges are all there. */
    private static void eachByte() {
        for (int b = 0; b < 256; b++) {
            char c = (char) b;
            boolean small = isSmall(b) || isFigure(b);
            says("NAMES: a .. z, .. KINDNAMES: A .. Z, .. NUMBERS .. the signs .. blanks (32, 10) between");
            if (isBlank(b)) {
                sound(0, "" + c);
            } else {
                faultAt(small || isLarge(b) || isSign(b) ? 2 : 1, 0, "" + c);
            }
            says("KINDNAMES: A .. Z, then a .. z, 0 .. 9");
            behind("kind A", c, ";", small || isBlank(b) ? 0 : -1, c == ';' || c == '(' ? 7 : 6);
            says("NAMES: a .. z, then a .. z, 0 .. 9");
            behind("sort f", c, "(whole){}", small || isBlank(b) ? 1 : -1, c == '(' ? 7 : 6);
            says("NUMBERS: 1 to 9 figures");
            if (c == ',') {
                faultAt(6, 15, "sort f(whole){1,:1;}");
            } else {
                behind("sort f(whole){1", c, ":1;}", isFigure(b) || isBlank(b) ? 1 : -1, c == ':' ? 16 : 15);
            }
            says("TEXTS: ' then 0 to 8 letters a .. z, then '");
            if (isSmall(b)) {
                sound(1, "sort f(text){'" + c + "':1;}");
            } else {
                faultAt(1, c == '\'' ? 15 : 13, "sort f(text){'" + c + "':1;}");
            }
        }
    }

    /** One byte behind a token: so many functions, or (-1) a token that can't stand there, or none at all. */
    private static void behind(String first, char c, String last, int functions, int place) {
        if (functions >= 0) {
            sound(functions, first + c + last);
        } else {
            faultAt(isSmall(c) || isLarge(c) || isSign(c) ? 2 : 1, place, first + c + last);
        }
    }

    private static void lengths() {
        says("both 8 bytes at most");
        sound(1, "kind Abcdefg8;kind B under Abcdefg8(Abcdefg8);sort abcdefg8(Abcdefg8,whole){Abcdefg8 as abcdefg7,abcdefg9"
            + " if abcdefg9<1:abcdefg8(abcdefg7,abcdefg9);_,zzzzzzzz:zzzzzzzz;}");
        faulty(1, "kind @Abcdefgh9;");
        faulty(1, "kind @Azzzzzzzz;");
        faulty(1, "kind A;kind B under @Abcdefgh9;");
        faulty(1, "kind A(@Abcdefgh9);");
        faulty(1, "kind A;sort f(A){@Abcdefgh9:1;}");
        faulty(1, "sort f(@Abcdefgh9){}");
        faulty(1, "sort @abcdefgh9(whole){}");
        faulty(1, "sort f(whole){@abcdefgh9:1;}");
        faulty(1, "sort f(whole){1 as @abcdefgh9:1;}");
        faulty(1, "sort f(whole){n if @abcdefgh9<1:1;}");
        faulty(1, "sort f(whole){n if n<1+@abcdefgh9:1;}");
        faulty(1, "sort f(whole){n:@abcdefgh9;}");
        faulty(1, "sort f(whole){n:@abcdefgh9(n);}");
        faulty(1, "sort f(whole){n:f(@abcdefgh9);}");
        faulty(1, "kind @A" + times("a", 1594));
        faulty(1, "sort @a" + times("9", 1594));
        says("NUMBERS: 1 to 9 figures");
        sound(1, "sort f(whole){999999999:999999999;-999999999..999999999 as n if 999999999<n-999999999:-999999999;000000001:0;}");
        faulty(1, "sort f(whole){@1000000000:1;}");
        faulty(1, "sort f(whole){@0000000001:1;}");
        faulty(1, "sort f(whole){-@1000000000:1;}");
        faulty(1, "sort f(whole){1..@1000000000:1;}");
        faulty(1, "sort f(whole){1..-@1000000000:1;}");
        faulty(1, "sort f(whole){n if @1000000000<n:1;}");
        faulty(1, "sort f(whole){n if n<n+@1000000000:1;}");
        faulty(1, "sort f(whole){n:@1000000000;}");
        faulty(1, "sort f(whole){n:-@1000000000;}");
        faulty(1, "sort f(whole){@" + times("1", 1586));
        says("TEXTS: ' then 0 to 8 letters a .. z, then '");
        sound(1, "sort f(text){'':1;'a':2;'abcdefgh':3;'zzzzzzzz':4;}");
        faulty(1, "sort f(text){@'abcdefghi':1;}");
        faulty(1, "sort f(text){@'abcdefghi");
        faulty(1, "sort f(text){@'ab");
        faulty(1, "sort f(text){@'");
        faulty(1, "sort f(text){@'aB':1;}");
        faulty(1, "sort f(text){@'a1':1;}");
        faulty(1, "sort f(text){@'a b':1;}");
        faulty(1, "sort f(text){@'a\n':1;}");
        faulty(1, "sort f(text){@'" + times("z", 1585) + "'");
    }

    private static void longest() {
        says("and .. (each the longest that can be)");
        sound(1, "sort f(whole){1..2:1;3 .. 4:1;-5..-4 as n:1;}");
        faulty(1, "sort f(whole){1@.2:1;}");
        faulty(1, "sort f(whole){1@. .2:1;}");
        faulty(1, "sort f(whole){1..@.2:1;}");
        faulty(2, "sort f(whole){1..@..2:1;}");
        faulty(1, "sort f(whole){1@.");
        faulty(2, "sort f(whole){1..@");
        faulty(1, "kind A;@.");
        sound(0, "kindA;kindB0b;");
        faulty(2, "@kindx A;");
        sound(1, "sort f(whole){1as n:n;2as m if m<-1:m;n if n--1>-2:1;}");
        faulty(2, "sort f(whole){1@as1:1;}");
        faulty(2, "sort f(whole){nif @n<1:1;}");
        faulty(2, "kind A@Bc;");
        says("blanks (32, 10) between");
        sound(1, " \n kind\nA ;sort  f\n( whole , A ) { - 1 .. 5 as n , A if n + - 1 < 2 : n ; } \n");
        sound(0, times("\n", 800) + times(" ", 800));
        sound(0, times(" ", 1593) + "kind A;");
        faulty(2, "@ki nd A;");
        faulty(2, "kind A @b c;");
        faulty(1, "kind@\tA;");
        faulty(1, "kind@\rA;");
        faulty(1, "@\u0000kind A;");
        faulty(1, "kind A;@\u00a0");
        says("WORDS are no NAMES: kind under sort if as whole truth text true false none");
        String[] words = {"kind", "under", "sort", "if", "as", "whole", "truth", "text", "true", "false", "none"};
        for (String word : words) {
            boolean constant = word.equals("true") || word.equals("false") || word.equals("none");
            faulty(2, "sort @" + word + "(whole){}");
            faulty(constant ? 5 : 2, "sort f(whole){@" + word + ":1;}");
            faulty(2, "sort f(whole){1 as @" + word + ":1;}");
            faulty(2, "sort f(whole){n if @" + word + "<1:1;}");
            faulty(2, "sort f(whole){n:@" + word + ";}");
            faulty(2, "sort f(whole){n:@" + word + "(n);}");
            faulty(2, "sort f(whole){n:f(@" + word + ");}");
            sound(1, "sort " + word + "1(whole){" + word + "s:" + word + "1(" + word + "s);}");
        }
    }

    private static void grammar() {
        says("text: { kind } { function }");
        sound(0, "");
        sound(0, "kind A;");
        sound(1, "sort f(whole){}");
        faulty(2, "@A");
        faulty(2, "@;");
        faulty(2, "sort f(whole){}@kind A;");
        faulty(2, "sort f(whole){}@;");
        says("kind: kind KINDNAME [ under KINDNAME ] [ ( sort { , sort } ) ] ;");
        faulty(2, "kind @a;");
        faulty(2, "kind A@A;");
        faulty(2, "kind A under@;");
        faulty(2, "kind A;kind B under @a;");
        faulty(2, "kind A(@);");
        faulty(2, "kind A(whole@;");
        faulty(2, "kind A(whole,@);");
        faulty(2, "kind A(@none);");
        faulty(2, "kind A(@a);");
        faulty(2, "kind A(whole)@(whole);");
        faulty(2, "kind A;kind B(whole)@under A;");
        says("sort: whole | truth | text | KINDNAME");
        sound(2, "kind A(whole,truth,text,A);sort f(whole,truth,text){}sort g(A){}");
        faulty(2, "sort f(@sort){}");
        says("function: sort NAME ( sort { , sort } ) { { rule } }");
        faulty(2, "sort @F(whole){}");
        faulty(2, "sort f@{}");
        faulty(2, "sort f(@){}");
        faulty(2, "sort f(whole,@){}");
        faulty(2, "sort f(whole@{}");
        faulty(2, "sort f(whole)@;");
        faulty(2, "sort f(whole){@");
        says("rule: pattern { , pattern } [ if sum ( < | = | > ) sum ] : answer ;");
        faulty(2, "sort f(whole){@:1;}");
        faulty(2, "sort f(whole){1@;}");
        faulty(2, "sort f(whole){1:@;}");
        faulty(2, "sort f(whole){1:1@}");
        faulty(2, "sort f(whole){1:1;@");
        faulty(2, "sort f(whole){n if @<1:1;}");
        faulty(2, "sort f(whole){n if n@:1;}");
        faulty(2, "sort f(whole){n if n<n@<n:1;}");
        faulty(2, "sort f(whole){n if n<n:1@if n<n;}");
        sound(1, "sort f(whole){n if n<1:1;n if n=1:2;n if n>1:3;}");
        says("sum: term [ ( + | - | * | / | % ) term ]");
        sound(1, "sort f(whole){n if n+n<n-n:1;n if n*n<n/n:1;n if n%-2=0-n:-5;}");
        faulty(2, "sort f(whole){n if n+n@+n<1:1;}");
        faulty(2, "sort f(whole){n if n+@<1:1;}");
        says("term: [ - ] NUMBER | NAME");
        faulty(2, "sort f(whole){n if -@n<n:1;}");
        faulty(2, "sort f(whole){n if n<@true:1;}");
        says("answer: [ - ] NUMBER | NAME | NAME ( NAME { , NAME } )");
        faulty(2, "sort f(whole){n:-@n;}");
        faulty(2, "sort f(whole){n:-@-1;}");
        faulty(2, "sort f(whole){n:f(@);}");
        faulty(2, "sort f(whole){n:f(@1);}");
        faulty(2, "sort f(whole){n:f(n,@);}");
        faulty(2, "sort f(whole){n:f(n@;}");
        faulty(2, "sort f(whole){n:@'a';}");
        faulty(2, "sort f(whole){n:n@+1;}");
        says("pattern: plain [ as NAME ]");
        faulty(2, "sort f(whole){1 as @_:1;}");
        faulty(2, "sort f(whole){1 as n @as m:1;}");
        sound(1, "sort f(whole){(1 as n)as m:n;_ as n:n;m as n:n;}");
        says("plain: _ | NAME | number [ .. number ] | .. | ( pattern { | pattern } )");
        faulty(2, "sort f(whole){-@n:1;}");
        faulty(2, "sort f(whole){1..@n:1;}");
        faulty(2, "sort f(whole){-@as n:1;}");
        faulty(2, "sort f(whole){-@:1;}");
        faulty(2, "sort f(whole){1..@as n:1;}");
        faulty(2, "sort f(whole){1..-@:1;}");
        faulty(2, "sort f(whole,whole){-@n,1:1;}");
        faulty(2, "sort f(whole,whole){1..@n,1:1;}");
        faulty(2, "kind B(whole,whole);sort f(B){B(-@n,1):1;}");
        faulty(2, "sort f(whole){1..-@-1:1;}");
        faulty(2, "sort f(whole){1..2@..3:1;}");
        faulty(2, "sort f(whole){(1|@):1;}");
        faulty(2, "sort f(whole){(@):1;}");
        faulty(2, "sort f(whole){(1@,2):1;}");
        faulty(2, "sort f(whole,whole){(1@,2),3:1;}");
        faulty(2, "sort f(whole){1@|2:1;}");
        faulty(2, "sort f(whole){(1):1;(2@:1;}");
        faulty(2, "kind B(whole);sort f(B){B(@):1;}");
        faulty(2, "kind B(whole);sort f(B){B(1@:1;}");
        faulty(2, "kind B(whole,whole);sort f(B){B(1,@):1;}");
    }

    /** A text that ends behind each of its tokens: so many functions, or the code of the fault at the end. */
    private static void ends() {
        says("FAULTS, at a TOKEN's first byte (the end: how many bytes there are)");
        String[] tokens = ("kind A ; kind B under A ( whole , A ) ; sort f ( A , whole ) { B ( n , _ ) as b , 1 .. 2 "
            + "if n + 1 < 2 : f ( b , n ) ; }").split(" ");
        String codes = "0220" + times("2", 9) + "0" + times("2", 8) + "62622626" + times("2", 11) + "4" + times("2", 6) + "1";
        String text = "";
        for (int i = 0; i <= tokens.length; i++) {
            int code = codes.charAt(i) - '0';
            for (int blanks = 1; blanks < 4; blanks++) {
                String cut = text + times(blanks == 2 ? "\n" : " ", blanks - 1);
                if (code <= 1) {
                    sound(code, cut);
                } else {
                    // without its ( the NAME of the function is one that is not bound
                    faultAt(code, code == 4 ? cut.lastIndexOf('f') : cut.length(), cut);
                }
            }
            text += i < tokens.length ? tokens[i] + (i % 3 == 0 ? " " : "\n") : "";
        }
        faultAt(2, 1600, times(" ", 1596) + "kind");
        faultAt(2, 1600, "kind" + times(" ", 1596));
        faultAt(2, 1599, times(" ", 1599) + ";");
    }

    private static void taken() {
        says("3 a KINDNAME of a KIND that is there");
        faulty(3, "kind A;kind @A;");
        faulty(3, "kind A;kind B under A;kind @A under B;");
        sound(0, "kind A;kind Aa;kind A0;");
        says("3 .. a NAME of a function that is");
        faulty(3, "sort f(whole){}sort @f(whole){}");
        faulty(3, "sort f(whole){}sort g(text){}sort @f(text){}");
        sound(1, "sort f(whole){f:f;}");
        sound(2, "sort f(whole){g:g(g);}sort g(whole){f as g:f(f);}");
        says("3 .. a NAME that is bound already in this rule (but in another alternative of the same ( | ))");
        faulty(3, "sort f(whole,whole){n,@n:1;}");
        faulty(3, "sort f(whole){n as @n:1;}");
        faulty(3, "sort f(whole,whole){n,(@n|1):1;}");
        faulty(3, "sort f(whole,whole){n,(1|@n):1;}");
        faulty(3, "sort f(whole,whole){(n|n),@n:1;}");
        faulty(3, "sort f(whole,whole){(n|n),(@n|n):1;}");
        faulty(3, "sort f(whole){(n|n) as @n:1;}");
        faulty(3, "sort f(whole){(n|((n) as @n)):1;}");
        faulty(3, "kind K(whole,whole);sort f(K){(K(n,_)|K(n,@n)):1;}");
        faulty(3, "kind K(whole,whole);sort f(K){K(n,_)as @n:1;}");
        sound(1, "sort f(whole,whole){(n|1 as n),m:n;n,m:m;}");
        sound(1, "kind K(whole,whole);sort f(K){(K(n,m)|K(m,n)):1;K(n,m):1;}");
    }

    private static void none() {
        says("4 a KINDNAME of none (a KIND is there as soon as its KINDNAME is read, but not for its own under)");
        faulty(4, "kind A under @A;");
        faulty(4, "kind A under @B;kind B;");
        faulty(4, "kind A(@B);kind B;");
        faulty(4, "kind A(A,@B);");
        sound(0, "kind A(A,whole,truth,text);kind B(A,B);");
        faulty(4, "sort f(@A){}");
        faulty(4, "kind A;sort f(A,@B){}");
        faulty(4, "kind A;sort f(A){@B:1;}");
        faulty(4, "sort f(whole){@B:1;}");
        says("4 .. a NAME in a guard, an answer that is not bound");
        faulty(4, "sort f(whole){n if @m<1:1;}");
        faulty(4, "sort f(whole){n if 1+@m<1:1;}");
        faulty(4, "sort f(whole){n if n<@m:1;}");
        faulty(4, "sort f(whole){n if n<1-@m:1;}");
        faulty(4, "sort f(whole){n if @f<1:1;}");
        faulty(4, "sort f(whole){n:@m;}");
        faulty(4, "sort f(whole){n:f(@m);}");
        faulty(4, "sort f(whole,whole){n,m:f(n,@o);}");
        faulty(4, "sort f(whole){n:f(@f);}");
        faulty(4, "sort f(whole){n:1;_:@n;}");
        says("(whether a ( follows it is looked at first, blanks passed over)");
        faulty(4, "sort f(whole){n:@m#;}");
        faulty(4, "sort f(whole){n:@m");
        faulty(4, "sort f(whole){n:@m)(n);}");
        faulty(4, "sort f(whole){n:@f;}");
        faulty(2, "sort f(whole){n:m \n (@);}");
        faulty(2, "sort f(whole){n:m(@");
        sound(1, "sort f(whole){n:f \n\n (n);}");
        says("*the NAME of no function ahead of (");
        faulty(4, "sort f(whole){n:@g \n (n);}");
        faulty(4, "sort f(whole){n:@n(n);}");
        sound(2, "sort f(whole){n:g(n);}sort g(whole){n:f(n);_ as n:g(n);}");
    }

    private static void unsuited() {
        says("5 under a KIND with PARTS");
        faulty(5, "kind A(whole);kind B under @A;");
        faulty(5, "kind A(A,A,A,A);kind B under @A(whole);");
        sound(0, "kind A;kind B under A;kind C under B(whole);kind D under A;");
        says("5 .. what can't stand for the SORT there: a number (at its first TOKEN), true, false, a TEXT, none (a KIND's alone)");
        String[] sorts = {"whole", "truth", "text", "K"};
        String[] plains = {"1", "-1", "1..2", "-2..-1", "true", "false", "''", "'a'", "none", "K"};
        int[] of = {0, 0, 0, 0, 1, 1, 2, 2, 3, 3};
        for (int s = 0; s < sorts.length; s++) {
            for (int p = 0; p < plains.length; p++) {
                String[] around = {"kind K;sort f(" + sorts[s] + "){@" + plains[p] + ":1;}",
                    "kind K;sort f(truth," + sorts[s] + "){_,(_|@" + plains[p] + "):1;}",
                    "kind K;kind P(truth," + sorts[s] + ");sort f(P){P(_,@" + plains[p] + " as n):1;}"};
                for (String text : around) {
                    if (of[p] == s) {
                        sound(1, text.replace("@", ""));
                    } else {
                        faulty(5, text);
                    }
                }
            }
            sound(1, "kind K;sort f(" + sorts[s] + "){n as m:1;_:2;((_)):3;}");
        }
        faulty(5, "sort f(text){@-x:1;}");
        says("5 .. a KINDNAME (it must be the SORT's KIND, UNDER it, or one that this is UNDER)");
        String kinds = "kind A;kind B under A;kind C under B;kind D under B;kind E under A;kind F;";
        sound(1, kinds + "sort f(B){A:1;B:2;C:3;D:4;none:5;}");
        sound(1, kinds + "sort f(A){A:1;B:2;C:3;D:4;E:5;}");
        sound(1, kinds + "sort f(C){A:1;B:2;C:3;}");
        faulty(5, kinds + "sort f(B){@E:1;}");
        faulty(5, kinds + "sort f(C){@D:1;}");
        faulty(5, kinds + "sort f(A){@F:1;}");
        faulty(5, kinds + "sort f(F){@A:1;}");
        faulty(5, kinds + "sort f(text){@A:1;}");
        says("5 .. a NAME in a guard, alone as an answer, that is no WHOLE");
        String[] others = {"truth", "text", "K"};
        for (String other : others) {
            faulty(5, "kind K;sort f(" + other + "){t if @t<1:1;}");
            faulty(5, "kind K;sort f(" + other + "){t if 1<2+@t:1;}");
            faulty(5, "kind K;sort f(" + other + "){t:@t;}");
            sound(1, "kind K;sort f(" + other + "){t:f(t);}");
        }
        says("*a NAME handed over of another SORT than is wanted (a KIND's may be UNDER the one that is)");
        faulty(5, "sort f(text){t:g(@t);}sort g(whole){}");
        faulty(5, "sort f(whole){t:g(@t);}sort g(truth){}");
        faulty(5, "kind K;sort f(K){t:g(@t);}sort g(text){}");
        faulty(5, "kind K;sort f(text){t:g(@t);}sort g(K){}");
        faulty(5, "sort f(whole,text){n,t:g(n,t,@n);}sort g(whole,text,truth){}");
        faulty(5, kinds + "sort f(A){t:g(@t);}sort g(B){}");
        faulty(5, kinds + "sort f(A){B as t:g(@t);}sort g(B){}");
        faulty(5, kinds + "sort f(E){t:g(@t);}sort g(B){}");
        faulty(5, kinds + "sort f(F){t:g(@t);}sort g(A){}");
        sound(2, kinds + "sort f(B){t:g(t);}sort g(A){}");
        sound(2, kinds + "sort f(C){t:g(t);}sort g(A){}");
        sound(2, kinds + "sort f(C){t:g(t);}sort g(C){}");
    }

    private static void counts() {
        says("6 a ( behind a KINDNAME without PARTS");
        faulty(6, "kind A;sort f(A){A@(1):1;}");
        faulty(6, "kind A;sort f(A){A @():1;}");
        faulty(6, "kind A;kind B under A(whole);sort f(A){A@(1):1;}");
        sound(1, "kind A;kind B under A(whole);sort f(A){B(1):1;B:2;A:3;}");
        says("6 .. a , ahead of one pattern too many");
        faulty(6, "kind A(whole);sort f(A){A(1@,2):1;}");
        faulty(6, "kind A(whole,whole);sort f(A){A(1,2@,):1;}");
        faulty(6, "kind A(whole,whole,whole,whole);sort f(A){A(1,2,3,4@,5):1;}");
        faulty(6, "sort f(whole){1@,2:1;}");
        faulty(6, "sort f(whole){1@,#");
        faulty(6, "sort f(whole,text){1,_ @,");
        faulty(6, "sort f(whole,text,truth){1,_,_@,_:1;}");
        says("6 .. what stands in place of a , where one more is wanted (of PARTS, of columns)");
        faulty(6, "kind A(whole,whole);sort f(A){A(1@):1;}");
        faulty(6, "kind A(whole,whole);sort f(A){A(1@;):1;}");
        faulty(6, "kind A(whole,whole);sort f(A){A(1@|2):1;}");
        faulty(6, "kind A(whole,whole,whole,whole);sort f(A){A(1,2,3@):1;}");
        faulty(6, "sort f(whole,whole){1@:1;}");
        faulty(6, "sort f(whole,whole){1 @if 1<2:1;}");
        faulty(6, "sort f(whole,whole){1 @2:1;}");
        faulty(6, "sort f(whole,whole,whole){1,2@:1;}");
        faulty(6, "sort f(whole,whole){1@");
        faulty(1, "sort f(whole,whole){1@#");
        says("*the NAME of a function to which another count is handed over");
        faulty(6, "sort f(whole){n:@f(n,n);}");
        faulty(6, "sort f(whole){n:@f(n,n,n,n,n);}");
        faulty(6, "sort f(whole,whole){n,m:@f(n);}");
        faulty(6, "sort f(whole,whole,whole){n,m,o:@f(n,m);}");
        faulty(6, "sort f(whole,whole,whole){n,m,o:@f(n,m,o,n);}");
        sound(1, "sort f(whole,whole,whole){n,m,o:f(n,n,n);}");
        faultAt(6, 16, many("sort f(whole){n:f(n", ",n", 789, ");}"));
        says("7 a range whose first number is above its second (at the first TOKEN)");
        faulty(7, "sort f(whole){@2..1:1;}");
        faulty(7, "sort f(whole){@-1..-2:1;}");
        faulty(7, "sort f(whole){ @0..-1:1;}");
        faulty(7, "sort f(whole){(1|@1..-1):1;}");
        faulty(7, "sort f(whole){@999999999..999999998:1;}");
        sound(1, "sort f(whole){-2..-1:1;3..3:2;-3..-3:3;-0..0:4;0..-0:5;-1..0:6;999999998..999999999:7;}");
        says("8 alternatives that do not all bind the same NAMES, each of the same SORT (at the ( ahead of them)");
        faulty(8, "sort f(whole){@(a|1):1;}");
        faulty(8, "sort f(whole){@(1|a):1;}");
        faulty(8, "sort f(whole){@(a|a|b):1;}");
        faulty(8, "sort f(whole){@(a|b|a):1;}");
        faulty(8, "sort f(whole){@(a|a as b):1;}");
        faulty(8, "sort f(whole){@(a as b|a):1;}");
        faulty(8, "sort f(whole){@(a|a|a|a|a|_):1;}");
        faulty(8, "kind A(whole,text);sort f(A){@(A(x,_)|A(_,x)):1;}");
        faulty(8, "kind A;kind B under A(A);kind C under A(C);sort f(A){@(B(x)|C(x)):1;}");
        faulty(8, "sort f(whole){(1|@(a|b)):1;}");
        faulty(8, "sort f(whole){@(1|(a|a)):1;}");
        sound(1, "kind A(whole,whole);sort f(A){(A(x,y)|A(y,x)):1;}");
        sound(1, "sort f(whole){((a|1 as a)|(2 as a|a)):a;}");
        sound(1, "sort f(whole){(a as b|b as a|(1 as a)as b):a;}");
        sound(1, "sort f(whole){(a):a;}");
    }

    private static void muchOfText() {
        says("9 MUCH, at the first TOKEN: the 25th KIND (its KINDNAME)");
        sound(0, many("", "kind A%;", 24, ""));
        faulty(9, many("", "kind A%;", 24, "kind @B;"));
        faulty(9, many("", "kind A%;", 24, "kind @B #"));
        sound(0, many("kind K;", "kind A% under K;", 23, ""));
        says("9 .. the 5th PART");
        sound(0, "kind A(whole,whole,whole,whole);");
        faulty(9, "kind A(whole,whole,whole,whole,@whole);");
        faulty(9, "kind A(A,A,A,A,@A);");
        says("9 .. the 13th function (its NAME)");
        sound(12, many("", "sort f%(whole){}", 12, ""));
        faulty(9, many("", "sort f%(whole){}", 12, "sort @g(whole){}"));
        says("9 .. the 4th column");
        sound(1, "sort f(whole,truth,text){}");
        faulty(9, "sort f(whole,truth,text,@text){}");
        faulty(9, "kind A;sort f(A,A,A,@A){}");
        says("9 .. the 17th rule of a function");
        sound(1, many("sort f(whole){", "_:%;", 16, "}"));
        sound(2, many(many("sort f(whole){", "_:%;", 16, "}sort g(whole){"), "_:%;", 16, "}"));
        String[] firsts = {"_", "n", "1", "-1", "1..2", "-2..-1", "-2..1", "5..5", "-1..-1", "(1|2)", "(a|b)", "5..n", "-x", "5..", "1#",
            "7 3", "7..n 3", "-3 as n"};
        for (String first : firsts) {
            faulty(9, many("sort f(whole){", "_:%;", 16, "@" + first + ":1;}"));
        }
        faulty(9, many("sort f(whole){", "_:%;", 16, "@7:3;}"));
        faulty(9, many("sort f(whole,whole){", "_,_:%;", 16, "@7,3:1;}"));
        faulty(9, many("kind A;sort f(A,A){", "_,_:%;", 16, "@A,A:1;}"));
        faulty(9, many("kind A;sort f(A,A){", "_,_:%;", 16, "@none,A:1;}"));
        faulty(9, many("sort f(truth){", "_:%;", 16, "@true:1;}"));
        faulty(9, many("sort f(text){", "_:%;", 16, "@'':1;}"));
        says("9 .. a pattern within 6 others");
        sound(1, "sort f(whole){(((((1))))):1;}");
        faulty(9, "sort f(whole){((((((@1)))))):1;}");
        faulty(9, "sort f(whole){((((((@n)))))):1;}");
        faulty(9, "sort f(whole){((((((@(1))))))):1;}");
        sound(1, "kind L(whole,L);sort f(L){L(_,L(_,L(_,L(_,L(_,L))))):1;}");
        faulty(9, "kind L(whole,L);sort f(L){L(_,L(_,L(_,L(_,L(_,L(@_,_)))))):1;}");
        sound(1, "kind L(L);sort f(L){L((L((L(_))))):1;}");
        faulty(9, "kind L(L);sort f(L){L((L((L((@_)))))):1;}");
        says("9 .. the 7th alternative");
        sound(1, "sort f(whole){(1|2|3|4|5|6):1;}");
        faulty(9, "sort f(whole){(1|2|3|4|5|6|@7):1;}");
        faulty(9, "sort f(whole){(1|2|3|4|5|6|@7|3):1;}");
        faulty(9, "sort f(whole){(1|2|3|4|5|6|@-1..-1):1;}");
        faulty(9, "sort f(whole){(1|2|3|4|5|6|@(7)):1;}");
        faulty(9, "sort f(whole){(n|n|n|n|n|n|@n):1;}");
        sound(1, "sort f(whole){((1|2|3|4|5|6)|(1|2|3|4|5|6)|7|8|9|0):1;}");
        says("*the rule with which a function has more than 40 ROWS");
        String six = "(1|2|3|4|5|6)";
        sound(1, "sort f(whole,whole){" + six + "," + six + ":1;(1|2|3|4),_:2;}");
        faulty(9, "sort f(whole,whole){_,_:0;" + six + "," + six + ":1;@(1|2|3|4),_:2;}");
        faulty(9, "sort f(whole,whole){" + six + "," + six + ":1;(1|2|3|4),_:2;@_,_:3;_,_:4;}");
        faulty(9, "sort f(whole,whole,whole){@" + six + "," + six + "," + six + ":1;}");
        sound(2, "sort f(whole,whole){" + six + "," + six + ":1;}sort g(whole,whole){" + six + "," + six + ":1;}");
        faulty(9, "kind K(whole,whole,whole,whole);sort f(K){@K(" + six + "," + six + "," + six + "," + six + "):1;}");
        sound(1, "kind K(whole,whole);sort f(K){K((1|2|3|4|5),((1|2)|(3|4)|5|6|7|8)):1;}");
        faulty(9, "kind K(whole,whole);sort f(K){_:0;@K((1|2|3|4|5),((1|2)|(3|4)|5|6|7|8)):1;}");
    }

    /** A ninth name is one too many even where an alternative binds few: reading meets it ahead of the ). */
    private static void muchOfNames() {
        says("9 .. the 9th NAME that a rule binds");
        String columns = "kind K(whole,whole,whole,whole);sort f(K,K,whole){K(a,b,c,d),K(e,g,h,i),";
        sound(1, columns + "_:1;K(a,b,c,d),K(e,g,h,i),_:1;}");
        faulty(9, columns + "@j:1;}");
        faulty(9, columns + "_ as @j:1;}");
        faulty(9, columns + "(@j|j):1;}");
        String kinds = "kind A(whole,whole,whole,whole);kind B(A,A);";
        String eight = "A(a as b,c as d,e as g,h as i)";
        faulty(9, kinds + "sort f(A){" + eight + "as @z:1;}");
        faulty(9, kinds + "sort f(A){(" + eight + "|@z)");
        faulty(9, kinds + "sort f(A){(" + eight + "|_ as @z):1;}");
        faulty(9, kinds + "sort f(A){(" + eight + "|" + eight + "|A(a,b,c,@z)):1;}");
        faulty(8, kinds + "sort f(A){@(" + eight + "|a):1;}");
        faulty(8, kinds + "sort f(A){@(a|" + eight + "):1;}");
        faulty(9, kinds + "sort f(A){(z|A(a as b,c as d,e as g,h as @i)):1;}");
        faulty(9, kinds + "sort f(A){(A(a,b,c,d)|A(e,g,h,i)|@j):1;}");
        faulty(8, kinds + "sort f(A){@(A(a,b,c,d)|A(e,g,h,i)|A(a,e,b,i)):1;}");
        faulty(9, kinds + "sort f(A,whole){(A(a,b,c,d)|A(d,c,e,g)|A(e,g,h,i) as @j),k:1;}");
        faulty(9, kinds + "sort f(A,A){A(a,b,c,d),(A(e,g,h,i)|@j):1;}");
        faulty(9, kinds + "sort f(B){(B(A(a,b,c,d),_)|B(_,(A(e,g,h,i)|@j))):1;}");
        faulty(8, kinds + "sort f(B){(B(A(a,b,c,d),_)|B(_,@(A(e,g,h,i)|a))):1;}");
        faulty(9, kinds + "sort f(A){((a|a)|(A(b,c,d,e) as g|A(b,c,d,e) as g)|A(h,i,@j,k)):1;}");
        sound(1, kinds + "sort f(A){(" + eight + "|A(i as h,g as e,d as c,b as a)):a;" + eight + ":b;}");
        sound(1, kinds + "sort f(A){(" + eight + "|" + eight + "|" + eight + "|" + eight + "|" + eight + "|" + eight + "):i;}");
        sound(1, kinds + "sort f(A,whole){(A(a,b,c,d)|A(d,c,b,a)) as e,((1 as g|2 as g) as h|(3 as h) as g):1;}");
        faulty(8, kinds + "sort f(B){(B(A(n,_,_,_),_)|B(@(n|A(n,_,_,_)),_)):1;}");
        faulty(8, kinds + "sort f(B){@(B(A(n,_,_,_),_)|B((n|n),_)):1;}");
        faulty(8, kinds + "sort f(B){@(B(n,_)|B(A(n,_,_,_),_)|B(n,_)):1;}");
    }

    private static void firstMet() {
        says("The first that reading meets");
        faulty(2, "@; #");
        faulty(1, "@# ;");
        faulty(7, "sort f(whole){@2..1,#");
        faulty(1, "sort f(whole){2..@#");
        faulty(2, "sort f(whole){n as @1..0:1;}");
        faulty(6, "sort f(whole){1@,2..1:1;}");
        faulty(5, "sort f(whole){n:f(n);@'':1;}");
        faulty(3, "kind A;kind @A under #");
        faulty(9, many("", "kind A%;", 24, "kind @B under A0(C);"));
        says("of one TOKEN the least");
        String[] full = {many("", "kind A%;", 24, "kind "), "kind A(whole,whole,whole,whole,",
            many("", "sort f%(whole){}", 12, "sort "), "sort f(whole,truth,text,",
            many("sort f(whole){", "_:%;", 16, ""), "sort f(whole){((((((", "sort f(whole){(1|2|3|4|5|6|"};
        String[][] least = {{"1#", "2;", "3A3", "3A23", "9Z"}, {"1#", "2)", "4B", "9A"}, {"1#", "2(", "3f0", "3f11", "9g"},
            {"1#", "2)", "4B", "9whole"}, {"1#", "2,", "4B", "5''", "5true", "5none", "72..1", "7-1..-2", "73..-4", "9n"},
            {"1#", "2)", "2|", "4B", "5''", "5false", "72..1", "7-1..-2", "9_"}, {"1#", "2)", "2|", "4B", "5''", "72..1", "9("}};
        for (int i = 0; i < full.length; i++) {
            for (String one : least[i]) {
                faulty(one.charAt(0) - '0', full[i] + "@" + one.substring(1));
            }
        }
        faulty(3, "sort f(whole,whole){n,((((((@n");
        faulty(3, "sort f(whole,whole){n,(1|2|3|4|5|6|@n");
        String eight = "kind K(whole,whole,whole,whole);sort f(K,K,whole){K(a,b,c,d),K(e,g,h,i),";
        faulty(3, eight + "@a:1;}");
        faulty(3, eight + "_ as @i:1;}");
        faulty(1, eight + "@abcdefghi:1;}");
        faulty(3, "kind A(whole,whole,whole,whole);sort f(A,A){A(a,b,c,d),(A(e,g,h,i)|@d):1;}");
        faulty(5, "sort f(text){@2..1:1;}");
        faulty(4, "kind A(whole);kind B under @C;");
        faulty(1, "sort f(whole,whole){1@.");
        says("(8 when the ) is met)");
        faulty(2, "sort f(whole){(a|b@;:1;}");
        faulty(1, "sort f(whole){(a|b@#");
        faulty(2, "sort f(whole){(a|b@");
        faulty(5, "sort f(whole){(a|b|@''):1;}");
        faulty(8, "sort f(whole){@(a|b)#");
        faulty(8, "sort f(whole){@(a|b)as #");
        faulty(8, "sort f(whole){@(a|b),");
        faulty(9, many("sort f(whole){", "_:%;", 16, "@(a|b):1;}"));
    }

    private static void starred() {
        says("those with * behind all others");
        faulty(2, "sort f(whole){n:g(n);}@;");
        faulty(1, "sort f(whole){n:g(n);}@#");
        faulty(4, "sort f(whole){n:g(n);}sort h(@A){}");
        faulty(9, many("sort a(whole){n:b(n);}", "sort f%(whole){}", 11, "sort @g(whole){}"));
        faulty(5, "sort f(whole,text){n,t:f(n);_,t:@t;}");
        String rows = "(1|2|3|4|5|6),(1|2|3|4|5|6),(1|2|3|4|5|6)";
        faulty(2, "sort f(whole,whole,whole){" + rows + ":1;@");
        faulty(8, "sort f(whole,whole,whole){" + rows + ":1;@(a|b),_,_:1;}");
        faulty(8, "sort f(whole,whole,whole){@(a|b|1|2|3|4),(1|2|3|4|5|6),(1|2|3|4|5|6):1;}");
        says("first those of answers, by places (of one answer the NAME of the function first), then 9");
        faulty(6, "sort f(whole,text){n,t:@g(n);_,t:h(t);}sort g(text,text){}");
        faulty(4, "sort f(whole,text){n,t:@h(n);_,t:g(t,t);}sort g(text){}");
        faulty(5, "sort f(whole,text){n,t:g(@n);_,t:h(t);}sort g(text){}");
        faulty(5, "sort f(whole,text){n,t:g(@n,n);}sort g(text,text){}");
        faulty(5, "sort f(whole,text){n,t:g(t,@n);}sort g(text,text){}");
        faulty(5, "sort f(whole){n:f(n);}sort g(text){t:f(@t);}sort h(text){t:i(t);}");
        faulty(6, "sort f(text,whole){t,n:@g(n,t);}sort g(text){}");
        faulty(4, "sort f(whole,whole,whole){" + rows + ":1;1,2,n:@g(n);}");
        faulty(4, "sort f(whole,whole,whole){" + rows + ":1;}sort g(whole){n:@h(n);}");
        faulty(9, "sort f(whole,whole,whole){_,_,_:1;@" + rows + ":1;}sort g(whole,whole,whole){" + rows + ":1;}");
        says("FULL: THE TREE of a function would have more than 120 nodes (behind all FAULTS)");
        String wide = many("sort f(whole){", "(1%0|1%2|1%4|1%6|1%8|2%0)if 1<2:1;", 6, "(9990|9992|9994|9996):1;");
        LetterPost x = new LetterPost();
        feedAll(x, wide + "}");
        due("read, 118 nodes", x.read(), 1);
        due("nodes", x.function(0, 3), 118);
        x = new LetterPost();
        feedAll(x, wide.replace("):1;", ")if 1<2:1;") + "}");
        due("read, 122 nodes", x.read(), LetterPost.FULL);
        faulty(4, wide.replace("):1;", ")if 1<2:1;") + "n:@g(n);}");
        faulty(9, wide.replace("):1;", ")if 1<2:1;") + "@_:1;}");
    }

    /** What an earlier text left behind on the tape must not be seen. */
    private static void stale() {
        says("what reads it uses it up");
        String[] earlier = {"#............................'''''''''''", "#aaaaaaaaaaaaaaaaaaaaaaaaaaaaaaaaaaaaaa", "#11111111111111111111111111111111111111"};
        String[] texts = {"sort f(text){@'a", "sort f(whole){1@.", "sort f(whole){1:1@", "sort @abcdefg", "kind A@"};
        int[] codes = {1, 1, 2, 2, 2};
        for (String first : earlier) {
            for (int i = 0; i < texts.length; i++) {
                int at = texts[i].indexOf('@');
                String text = texts[i].replace("@", "");
                LetterPost x = new LetterPost();
                feedAll(x, first);
                due("read " + first, x.read(), -10);
                feedAll(x, text);
                due("read " + text, x.read(), i == 3 ? -10 - text.length() : -10 - at);
                due("fault of " + text, x.fault(), codes[i]);
            }
        }
        LetterPost x = new LetterPost();
        feedAll(x, times(";", 1600));
        due("1600 signs", x.read(), -10);
        due("fault", x.fault(), 2);
        feedAll(x, many("sort f(whole){n:1;}", " ", 1581, ""));
        due("blanks to the end", x.read(), 1);
    }

    private static void late(int want, int code, String text) {
        LetterPost x = new LetterPost();
        feedAll(x, "kind A;kind B under A;kind C(whole);sort f(A){_:1;}");
        due("read", x.read(), 1);
        feedAll(x, text);
        due("add " + text, x.add(), want);
        due("fault of add " + text, x.fault(), code);
        due("tape behind add " + text, x.count(3), 0);
        due("late kinds behind add " + text, x.count(4), want >= 0 ? 1 : 0);
        due("kinds behind add " + text, x.count(0), want >= 0 ? 4 : 3);
        feedAll(x, "kind Z under A;");
        due("add behind " + text, x.add(), want >= 0 ? 4 : 3);
        due("fault behind " + text, x.fault(), 0);
        due("PARTS behind " + text, x.kind(want >= 0 ? 4 : 3, 2), 0);
    }

    private static void lines() {
        says("THE TAPE is one line kind KINDNAME under KINDNAME [ ( .. ) ] ;");
        late(3, 0, "kind D under A;");
        late(3, 0, " kind D under A ( whole , D ) ; ");
        late(3, 0, "kind D under A(whole,truth,text,A);");
        late(-10, 2, "");
        late(-13, 2, " \n ");
        late(-10, 2, "sort f(whole){}");
        late(-15, 2, "kind d under A;");
        late(-14, 2, "kind");
        late(-22, 2, "kind D under");
        late(-23, 2, "kind D under a;");
        late(-24, 2, "kind D under A");
        late(-30, 2, "kind D under A(whole");
        late(-25, 2, "kind D under A();");
        late(-25, 2, "kind D under A;kind E under A;");
        late(-25, 2, "kind D under A;;");
        says("It must come under a KIND that is SEALED (else FAULT 5, at that)");
        late(-23, 5, "kind D under B;");
        late(-23, 5, "kind D under C;");
        late(-23, 5, "kind D under B#");
        says("(FAULTS as in a text; 2 for a line without under, at the TOKEN behind its KINDNAME)");
        late(-16, 2, "kind D;");
        late(-16, 2, "kind D(whole);");
        late(-16, 2, "kind D");
        late(-18, 2, "kind D  A;");
        late(-16, 1, "kind D#");
        late(-10, 1, "#");
        late(-26, 1, "kind D under A; #");
        late(-15, 1, "kind Abcdefgh9 under A;");
        late(-15, 3, "kind A under A;");
        late(-15, 3, "kind C;");
        late(-23, 4, "kind D under D;");
        late(-23, 4, "kind D under E;");
        late(-25, 4, "kind D under A(E);");
        late(-49, 9, "kind D under A(whole,whole,whole,whole,whole);");
        late(-49, 4, "kind D under A(whole,whole,whole,whole,E);");
        says("9 .. the 25th KIND (its KINDNAME)");
        LetterPost x = new LetterPost();
        feedAll(x, many("kind A;kind B under A;", "kind C%;", 21, ""));
        due("read 23 kinds", x.read(), 0);
        feedAll(x, "kind D under A;");
        due("add the 24th", x.add(), 23);
        feedAll(x, "kind E under A;");
        due("add the 25th", x.add(), -15);
        due("fault of the 25th", x.fault(), 9);
        feedAll(x, "kind D;");
        due("add one that is there as the 25th", x.add(), -15);
        due("fault of one that is there", x.fault(), 3);
        due("read again", x.read(), LetterPost.NO);
        due("fault behind NO", x.fault(), 3);
        due("kinds", x.count(0), 24);
        due("late", x.count(4), 1);
        due("E is forgotten", x.kindNamed('E'), LetterPost.NONE);
    }

    public static void main(String[] args) {
        eachByte();
        lengths();
        longest();
        grammar();
        ends();
        taken();
        none();
        unsuited();
        counts();
        muchOfText();
        muchOfNames();
        firstMet();
        starred();
        stale();
        lines();
        System.out.println(wrong == 0 ? "all answers are as due" : wrong + " answers are not as due");
        if (wrong != 0) {
            System.exit(1);
        }
    }
}
