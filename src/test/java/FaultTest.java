/** Promises 3, 4, 5: each fault with its place, at the edges that the document names. */
public final class FaultTest {
    private static int wrong = 0;

    private static void feedAll(LetterPost x, String text) {
        for (int i = 0; i < text.length(); i++) {
            x.feed(text.charAt(i), 1);
        }
    }

    private static void due(String what, long got, long want) {
        if (got != want) {
            wrong++;
            System.out.println(what + " answered " + got + ", due is " + want);
        }
    }

    /** The text with a mark @ ahead of the byte where the fault is due. */
    private static void faulty(int code, String marked) {
        int at = marked.indexOf('@');
        String text = marked.substring(0, at) + marked.substring(at + 1);
        LetterPost x = new LetterPost();
        feedAll(x, text);
        due("read " + marked, x.read(), -10 - at);
        due("fault of " + marked, x.fault(), code);
        due("tape behind " + marked, x.count(3), 0);
        due("kinds behind " + marked, x.count(0), 0);
        due("functions behind " + marked, x.count(1), 0);
        due("add behind " + marked, x.add(), LetterPost.NO);
        due("empty text behind " + marked, x.read(), 0);
        due("fault behind an empty text", x.fault(), 0);
    }

    private static void sound(int functions, String text) {
        LetterPost x = new LetterPost();
        feedAll(x, text);
        due("read " + text, x.read(), functions);
        due("fault of " + text, x.fault(), 0);
    }

    private static void late(int want, int code, String text) {
        LetterPost x = new LetterPost();
        feedAll(x, "kind A;kind B under A;kind C(whole);sort f(A){_:1;}");
        due("read", x.read(), 1);
        feedAll(x, text);
        due("add " + text, x.add(), want);
        due("fault of add " + text, x.fault(), code);
        due("tape behind add " + text, x.count(3), 0);
        due("late kinds behind add " + text, x.count(4), want >= 0 ? 1 : 0);
        due("kinds behind add " + text, x.count(0), want >= 0 ? 4 : 3);
    }

    private static void tokens() {
        faulty(1, "@#");
        faulty(1, "@\t");
        faulty(1, "kind A;@.");
        faulty(1, "kind @Abcdefgh9;");
        sound(0, "kind Abcdefgh;");
        faulty(1, "sort @abcdefghi(whole){}");
        sound(1, "sort abcdefg9(whole){}");
        faulty(1, "sort f(whole){@1234567890:1;}");
        sound(1, "sort f(whole){123456789:1;}");
        faulty(1, "sort f(text){@'abcdefghi':1;}");
        sound(1, "sort f(text){'abcdefgh':1;}");
        faulty(1, "sort f(text){@'ab");
        faulty(1, "sort f(text){@'aB':1;}");
        faulty(1, "sort f(text){@'a b':1;}");
        sound(1, "sort f(text){'':1;}");
        faulty(1, "sort f(whole){1@.5:1;}");
        faulty(1, "sort f(whole){1..@.5:1;}");
        faulty(1, "sort f(whole){1@\u0000:1;}");
        faulty(1, "sort f(whole){1@\u00e9:1;}");
        sound(1, " \n kind\nA ;sort  f\n( whole , A ) { - 1 .. 5 as n , A if n + - 1 < 2 : n ; } \n");
        sound(1, "kind A;sort kinds(A){none:1;}");
        faulty(2, "sort @kind(whole){}");
        faulty(2, "sort f(whole){@if:1;}");
    }

    private static void standing() {
        faulty(2, "@A");
        faulty(2, "@;");
        faulty(2, "kind @a;");
        faulty(2, "kind A@");
        faulty(2, "kind A@A;");
        faulty(2, "kind A under@;");
        faulty(2, "kind A(@);");
        faulty(2, "kind A(whole@;");
        faulty(2, "kind A(whole,@);");
        faulty(2, "kind A(@none);");
        faulty(2, "sort f(whole){}@kind A;");
        faulty(2, "sort @F(whole){}");
        faulty(2, "sort f@{}");
        faulty(2, "sort f(@){}");
        faulty(2, "sort f(whole)@;");
        faulty(2, "sort f(whole){@:1;}");
        faulty(2, "sort f(whole){@");
        faulty(2, "sort f(whole){1@;}");
        faulty(2, "sort f(whole){1:@;}");
        faulty(2, "sort f(whole){1:1@}");
        faulty(2, "sort f(whole){1:1;@");
        faulty(2, "sort f(whole){1 as @_:1;}");
        faulty(2, "sort f(whole){1 as @true:1;}");
        faulty(2, "sort f(whole){-@n:1;}");
        faulty(2, "sort f(whole){1..@n:1;}");
        faulty(2, "sort f(whole){1..-@-1:1;}");
        faulty(2, "sort f(whole){(1|@):1;}");
        faulty(2, "sort f(whole){(@):1;}");
        faulty(2, "sort f(whole){(1@,2):1;}");
        faulty(2, "sort f(whole){n if @<1:1;}");
        faulty(2, "sort f(whole){n if n@:1;}");
        faulty(2, "sort f(whole){n if n+n@+n<1:1;}");
        faulty(2, "sort f(whole){n if n<n@<n:1;}");
        faulty(2, "sort f(whole){n if -@n<n:1;}");
        faulty(2, "sort f(whole){n:-@n;}");
        faulty(2, "sort f(whole){n:f(@);}");
        faulty(2, "sort f(whole){n:f(@1);}");
        faulty(2, "sort f(whole){n:f(n@;}");
        faulty(2, "sort f(whole){n:@'a';}");
        faulty(2, "sort f(whole){1 as n @as m:1;}");
        faulty(2, "kind B(whole);sort f(B){B(@):1;}");
        faulty(2, "kind B(whole);sort f(B){B(1@:1;}");
        sound(1, "sort f(whole){n if n%-2=0-n:-5;}");
    }

    private static void names() {
        faulty(3, "kind A;kind @A;");
        faulty(3, "sort f(whole){}sort @f(whole){}");
        faulty(3, "sort f(whole,whole){n,@n:1;}");
        faulty(3, "sort f(whole){n as @n:1;}");
        faulty(3, "sort f(whole,whole){n,(@n|1):1;}");
        faulty(3, "sort f(whole,whole){(n|n),@n:1;}");
        faulty(3, "sort f(whole){(n|n) as @n:1;}");
        sound(1, "sort f(whole,whole){(n|1 as n),m:n;n,m:m;}");
        sound(1, "sort f(whole){f:f;}");
        faulty(4, "kind A under @A;");
        faulty(4, "kind A under @B;kind B;");
        faulty(4, "kind A(@B);kind B;");
        sound(0, "kind A(A,whole,truth,text);");
        faulty(4, "sort f(@A){}");
        faulty(4, "kind A;sort f(A){@B:1;}");
        faulty(4, "sort f(whole){@B:1;}");
        faulty(4, "sort f(whole){n if @m<1:1;}");
        faulty(4, "sort f(whole){n if n<1-@m:1;}");
        faulty(4, "sort f(whole){n:@m;}");
        faulty(4, "sort f(whole){n:@m#;}");
        faulty(4, "sort f(whole){n:f(@m);}");
        faulty(4, "sort f(whole){n:@g \n (n);}");
        faulty(4, "sort f(whole){n:@n(n);}");
        faulty(4, "sort f(whole){n:1;_:@n;}");
    }

    private static void sorts() {
        faulty(5, "kind A(whole);kind B under @A;");
        faulty(5, "sort f(truth){@1:1;}");
        faulty(5, "sort f(text){@-1:1;}");
        faulty(5, "sort f(text){@-x:1;}");
        faulty(5, "sort f(whole){@true:1;}");
        faulty(5, "sort f(text){@false:1;}");
        faulty(5, "sort f(whole){@'':1;}");
        faulty(5, "sort f(whole){@none:1;}");
        faulty(5, "sort f(truth){@none:1;}");
        faulty(5, "kind A;sort f(A){@1:1;}");
        faulty(5, "kind A;sort f(text){@A:1;}");
        faulty(5, "kind A;kind B;sort f(A){@B:1;}");
        faulty(5, "kind A;kind B under A;kind C under A;sort f(B){@C:1;}");
        sound(1, "kind A;kind B under A;kind C under B;sort f(B){A:1;B:2;C:3;none:4;}");
        faulty(5, "kind A(whole,text);sort f(A){A(1,@2):1;}");
        faulty(5, "sort f(text){t if @t<1:1;}");
        faulty(5, "sort f(text){t if 1<2+@t:1;}");
        faulty(5, "sort f(truth){t:@t;}");
        faulty(5, "kind A;sort f(A){t:@t;}");
        faulty(5, "sort f(text){t:g(@t);}sort g(whole){}");
        faulty(5, "kind A;kind B under A;sort f(A){t:g(@t);}sort g(B){}");
        sound(2, "kind A;kind B under A;sort f(B){t:g(t);}sort g(A){}");
        faulty(5, "kind A;kind B under A;sort f(A){B as t:g(@t);}sort g(B){}");
    }

    private static void counts() {
        faulty(6, "kind A;sort f(A){A@(1):1;}");
        faulty(6, "kind A;kind B under A(whole);sort f(A){A@(1):1;}");
        faulty(6, "kind A(whole);sort f(A){A(1@,2):1;}");
        faulty(6, "kind A(whole,whole);sort f(A){A(1@):1;}");
        faulty(6, "kind A(whole,whole);sort f(A){A(1@;):1;}");
        faulty(6, "sort f(whole){1@,2:1;}");
        faulty(6, "sort f(whole,whole){1@:1;}");
        faulty(6, "sort f(whole,whole){1 @if 1<2:1;}");
        faulty(6, "sort f(whole,whole){1@");
        faulty(1, "sort f(whole,whole){1@#");
        faulty(6, "sort f(whole){n:@f(n,n);}");
        faulty(6, "sort f(whole){n:@f(n,n,n,n,n);}");
        faulty(6, "sort f(whole,whole){n,m:@f(n);}");
        faulty(7, "sort f(whole){@2..1:1;}");
        faulty(7, "sort f(whole){@-1..-2:1;}");
        faulty(7, "sort f(whole){ @0..-1:1;}");
        sound(1, "sort f(whole){-2..-1:1;3..3:2;}");
        faulty(8, "sort f(whole){@(a|1):1;}");
        faulty(8, "sort f(whole){@(1|a):1;}");
        faulty(8, "sort f(whole){@(a|a|b):1;}");
        faulty(8, "kind A(whole,text);sort f(A){@(A(x,_)|A(_,x)):1;}");
        faulty(8, "kind A;kind B under A(A);kind C under A(C);sort f(A){@(B(x)|C(x)):1;}");
        faulty(8, "sort f(whole){(1|@(a|b)):1;}");
        faulty(2, "sort f(whole){(a|b@;:1;}");
        faulty(1, "sort f(whole){(a|b@#");
        sound(1, "kind A(whole,whole);sort f(A){(A(x,y)|A(y,x)):1;}");
        sound(1, "sort f(whole){((a|1 as a)|(2 as a|a)):a;}");
    }

    private static String many(String first, String one, int n, String last) {
        StringBuilder all = new StringBuilder(first);
        for (int i = 0; i < n; i++) {
            all.append(one.replace("%", String.valueOf(i)));
        }
        return all.append(last).toString();
    }

    private static void much() {
        sound(0, many("", "kind A%;", 24, ""));
        faulty(9, many("", "kind A%;", 24, "kind @B;"));
        faulty(3, many("", "kind A%;", 24, "kind @A3;"));
        sound(0, "kind A(whole,whole,whole,whole);");
        faulty(9, "kind A(whole,whole,whole,whole,@whole);");
        faulty(4, "kind A(whole,whole,whole,whole,@B);");
        faulty(2, "kind A(whole,whole,whole,whole,@);");
        sound(12, many("", "sort f%(whole){}", 12, ""));
        faulty(9, many("", "sort f%(whole){}", 12, "sort @g(whole){}"));
        faulty(3, many("", "sort f%(whole){}", 12, "sort @f0(whole){}"));
        sound(1, "sort f(whole,truth,text){}");
        faulty(9, "sort f(whole,truth,text,@text){}");
        faulty(4, "sort f(whole,truth,text,@A){}");
        sound(1, many("sort f(whole){", "_:%;", 16, "}"));
        faulty(9, many("sort f(whole){", "_:%;", 16, "@_:1;}"));
        faulty(5, many("sort f(whole){", "_:%;", 16, "@'':1;}"));
        faulty(4, many("sort f(whole){", "_:%;", 16, "@A:1;}"));
        faulty(2, many("sort f(whole){", "_:%;", 16, "@,:1;}"));
        faulty(1, many("sort f(whole){", "_:%;", 16, "@abcdefghi:1;}"));
        faulty(7, many("sort f(whole){", "_:%;", 16, "@2..1:1;}"));
        faulty(9, many("sort f(whole){", "_:%;", 16, "@1..2:1;}"));
        faulty(9, many("sort f(whole){", "_:%;", 16, "@(a|b):1;}"));
        faulty(7, many("sort f(whole){", "_:%;", 16, "@-1..-2:1;}"));
        faulty(7, many("sort f(whole){", "_:%;", 16, "@3..-4:1;}"));
        faulty(9, many("sort f(whole){", "_:%;", 16, "@-2..-1:1;}"));
        faulty(9, many("sort f(whole){", "_:%;", 16, "@-2..1:1;}"));
        faulty(9, many("sort f(whole){", "_:%;", 16, "@5..5:1;}"));
        faulty(9, many("sort f(whole){", "_:%;", 16, "@5..n:1;}"));
        faulty(9, many("sort f(whole){", "_:%;", 16, "@5:4;}"));
        faulty(9, many("sort f(whole){", "_:%;", 16, "@-x..1:4;}"));
        faulty(9, many("sort f(whole){", "_:%;", 16, "@5.."));
        sound(1, "sort f(whole){(((((1))))):1;}");
        faulty(9, "sort f(whole){((((((@1)))))):1;}");
        faulty(5, "sort f(whole){((((((@'')))))):1;}");
        sound(1, "kind L(whole,L);sort f(L){L(_,L(_,L(_,L(_,L(_,L))))):1;}");
        faulty(9, "kind L(whole,L);sort f(L){L(_,L(_,L(_,L(_,L(_,L(@_,_)))))):1;}");
        sound(1, "sort f(whole){(1|2|3|4|5|6):1;}");
        faulty(9, "sort f(whole){(1|2|3|4|5|6|@7):1;}");
        faulty(5, "sort f(whole){(1|2|3|4|5|6|@''):1;}");
        String eight = "kind K(whole,whole,whole,whole);sort f(K,K,whole){K(a,b,c,d),K(e,g,h,i),";
        sound(1, eight + "_:1;}");
        faulty(9, eight + "@j:1;}");
        faulty(3, eight + "@a:1;}");
        faulty(9, eight + "_ as @j:1;}");
        faulty(3, eight + "_ as @i:1;}");
        ninthAmongAlternatives();
        String six = "(1|2|3|4|5|6)";
        sound(1, "sort f(whole,whole){" + six + "," + six + ":1;(1|2|3|4),_:2;}");
        faulty(9, "sort f(whole,whole){_,_:0;" + six + "," + six + ":1;@(1|2|3|4),_:2;}");
        faulty(9, "sort f(whole,whole,whole){@" + six + "," + six + "," + six + ":1;}");
        faulty(4, "sort f(whole,whole,whole){" + six + "," + six + "," + six + ":1;1,2,n:@g(n);}");
        faulty(2, "sort f(whole,whole,whole){" + six + "," + six + "," + six + ":1;@");
    }

    /** The ninth name of a rule is one too many even where an alternative binds few: reading meets it ahead of the ). */
    private static void ninthAmongAlternatives() {
        String kinds = "kind A(whole,whole,whole,whole);kind B(A,A);";
        String eight = "A(a as b,c as d,e as g,h as i)";
        faulty(9, kinds + "sort f(A){(" + eight + "|@z)");
        faulty(9, kinds + "sort f(A){(" + eight + "|_ as @z):1;}");
        faulty(9, kinds + "sort f(A){(" + eight + "|" + eight + "|A(a,b,c,@z)):1;}");
        faulty(8, kinds + "sort f(A){@(" + eight + "|a):1;}");
        faulty(8, kinds + "sort f(A){@(a|" + eight + "):1;}");
        faulty(9, kinds + "sort f(A){(z|A(a as b,c as d,e as g,h as @i)):1;}");
        faulty(9, kinds + "sort f(A){(A(a,b,c,d)|A(e,g,h,i)|@j):1;}");
        faulty(8, kinds + "sort f(A){@(A(a,b,c,d)|A(e,g,h,i)|A(a,e,b,i)):1;}");
        faulty(9, kinds + "sort f(A,whole){(A(a,b,c,d)|A(d,c,e,g)|A(e,g,h,i) as @j),k:1;}");
        faulty(9, kinds + "sort f(A,A){A(a,b,c,d),(A(e,g,h,i)|@j):1;}");
        faulty(3, kinds + "sort f(A,A){A(a,b,c,d),(A(e,g,h,i)|@d):1;}");
        faulty(9, kinds + "sort f(B){(B(A(a,b,c,d),_)|B(_,(A(e,g,h,i)|@j))):1;}");
        faulty(8, kinds + "sort f(B){(B(A(a,b,c,d),_)|B(_,@(A(e,g,h,i)|a))):1;}");
        faulty(9, kinds + "sort f(A){((a|a)|(A(b,c,d,e) as g|A(b,c,d,e) as g)|A(h,i,@j,k)):1;}");
        sound(1, kinds + "sort f(A){(" + eight + "|A(i as h,g as e,d as c,b as a)):a;" + eight + ":b;}");
        sound(1, kinds + "sort f(A,whole){(A(a,b,c,d)|A(d,c,b,a)) as e,((1 as g|2 as g) as h|(3 as h) as g):1;}");
        faulty(8, kinds + "sort f(B){(B(A(n,_,_,_),_)|B(@(n|A(n,_,_,_)),_)):1;}");
        faulty(8, kinds + "sort f(B){@(B(A(n,_,_,_),_)|B((n|n),_)):1;}");
        faulty(8, kinds + "sort f(B){@(B(n,_)|B(A(n,_,_,_),_)|B(n,_)):1;}");
    }

    private static void order() {
        faulty(6, "sort f(whole,text){n,t:@g(n);_,t:h(t);}sort g(text,text){}");
        faulty(4, "sort f(whole,text){n,t:@h(n);_,t:g(t,t);}sort g(text){}");
        faulty(5, "sort f(whole,text){n,t:g(@n,n);}sort g(text,text){}");
        faulty(5, "sort f(whole,text){n,t:g(t,@n);}sort g(text,text){}");
        faulty(2, "sort f(whole){n:g(n);}@;");
        faulty(5, "sort f(whole){n:f(n);@'':1;}");
    }

    /** What an earlier text left behind on the tape must not be seen. */
    private static void stale() {
        String[] earlier = {"#............................'''''''''''", "#aaaaaaaaaaaaaaaaaaaaaaaaaaaaaaaaaaaaaa", "#11111111111111111111111111111111111111"};
        String[] texts = {"sort f(text){@'a", "sort f(whole){1@.", "sort f(whole){1:1@", "sort @abcdefg", "kind A@"};
        int[] codes = {1, 1, 2, 2, 2};
        for (String first : earlier) {
            for (int i = 0; i < texts.length; i++) {
                int at = texts[i].indexOf('@');
                String text = texts[i].replace("@", "");
                LetterPost x = new LetterPost();
                feedAll(x, first);
                due("read " + first, x.read(), -10);
                feedAll(x, text);
                due("read " + text, x.read(), i == 3 ? -10 - text.length() : -10 - at);
                due("fault of " + text, x.fault(), codes[i]);
            }
        }
        LetterPost x = new LetterPost();
        feedAll(x, many("", ";", 1600, ""));
        due("1600 signs", x.read(), -10);
        due("fault", x.fault(), 2);
        feedAll(x, many("sort f(whole){n:f(n", ",n", 780, ");}"));
        due("many handed over", x.read(), -10 - 16);
        due("fault", x.fault(), 6);
        feedAll(x, many("sort f(whole){n:1;}", " ", 1581, ""));
        due("blanks to the end", x.read(), 1);
    }

    private static void late() {
        late(3, 0, "kind D under A;");
        late(3, 0, " kind D under A ( whole , D ) ; ");
        late(-10, 2, "");
        late(-10, 2, "sort f(whole){}");
        late(-10, 1, "#");
        late(-16, 2, "kind D;");
        late(-16, 2, "kind D(whole);");
        late(-15, 3, "kind A under A;");
        late(-23, 4, "kind D under D;");
        late(-23, 4, "kind D under E;");
        late(-23, 5, "kind D under B;");
        late(-23, 5, "kind D under C;");
        late(-25, 4, "kind D under A(E);");
        late(-49, 9, "kind D under A(whole,whole,whole,whole,whole);");
        late(-24, 2, "kind D under A");
        late(-25, 2, "kind D under A;kind E under A;");
        late(-26, 1, "kind D under A; #");
        late(-15, 2, "kind d under A;");
        LetterPost x = new LetterPost();
        feedAll(x, many("kind A;kind B under A;", "kind C%;", 21, ""));
        due("read 23 kinds", x.read(), 0);
        feedAll(x, "kind D under A;");
        due("add the 24th", x.add(), 23);
        feedAll(x, "kind E under A;");
        due("add the 25th", x.add(), -15);
        due("fault of the 25th", x.fault(), 9);
        due("read again", x.read(), LetterPost.NO);
        due("fault behind NO", x.fault(), 9);
        due("kinds", x.count(0), 24);
        due("late", x.count(4), 1);
        due("E is forgotten", x.kindNamed('E'), LetterPost.NONE);
    }

    public static void main(String[] args) {
        tokens();
        standing();
        names();
        sorts();
        counts();
        much();
        order();
        stale();
        late();
        System.out.println(wrong == 0 ? "all answers are as due" : wrong + " answers are not as due");
        if (wrong != 0) {
            System.exit(1);
        }
    }
}
