/**
 * The sentences of section 3 of the document that name a boundary case, one after another: each method's comment is the
 * sentence whose case it tries. Where a case is a fault, the case beside it that is none is tried, too, and done.
 */
public final class EdgesOfTextTest {
    private static final String HEAD = "method m(a,b){";

    public static void main(String[] args) {
        sixThousandBytes();
        everyByte();
        tokensAsLongAsMayBe();
        tokensAtTheEnd();
        wordsAndNumerals();
        keywords();
        fortyMethods();
        fourParametersAndArguments();
        twelveWords();
        sites();
        names();
        literals();
        twentyBrackets();
        methodsOfGive();
        kindsOfFailAndOn();
        declaredTwice();
        declaredBehind();
        wordsOfTheInnermostScope();
        guardsOfOneOnOrEnsure();
        theLeastPlace();
        manyLongTexts();
        Shop.finish();
    }

    /** The place of the fault is where @ stands; without @ there is none. */
    private static void fault(String marked) {
        Shop.due("fault of " + marked, Shop.fault(marked.replace("@", "")), marked.indexOf('@'));
    }

    /** The fault is at the first byte of the rest. */
    private static void faultBehind(String before, String rest) {
        Shop.due("fault of " + before + rest, Shop.fault(before + rest), before.length());
    }

    private static void body(String marked) {
        fault("method k(){} " + HEAD + marked + "}");
    }

    private static void due(String statements, String want) {
        Shop.same(statements, Shop.doing(statements, 7, 3), want);
    }

    private static String word(int n) {
        return "w" + (char) ('a' + n / 26) + (char) ('a' + n % 26);
    }

    /** The TAPE is a row of at most 6000 bytes. */
    private static void sixThousandBytes() {
        String text = HEAD + "write a;" + " ".repeat(6000 - HEAD.length() - 8 - 10) + "answer b;}";
        Shop.due("length", text.length(), 6000);
        DelegationShop shop = Shop.of(1, text);
        Shop.same("run", Shop.outcome(shop, 0, 7, 3) + Shop.writtenOf(shop), "0 1:3 1:7");
        fault(text.substring(0, 5999) + "@?");
        fault(text.substring(0, 5999) + " @");
        fault("@");
    }

    /** A byte with which no token begins; bytes 10 and 32 between tokens. */
    private static void everyByte() {
        String signs = "{}()[]|,;.!=<>+-*/%";
        for (char c = 0; c < 256; c++) {
            if (c == 10 || c == 32) {
                fault("method" + c + "m(a,b){a" + c + "==" + c + "b;}" + c);
            } else if (signs.indexOf(c) < 0 && (c < 'a' || c > 'z') && (c < '0' || c > '9')) {
                faultBehind("", "" + c);
                faultBehind("", c + "method m(){}");
                faultBehind("method", c + "m(a,b){}");
                faultBehind("method m", c + "(a,b){}");
                faultBehind("method m(a", c + "b){}");
                faultBehind(HEAD + "a", c + "b;}");
                faultBehind(HEAD + "a+", c + "b;}");
                faultBehind(HEAD + "var ", c + "=b;}");
                faultBehind(HEAD + "a.", c + ";}");
                faultBehind(HEAD + "fail ", c + ";}");
                faultBehind(HEAD, c + "b;}");
                faultBehind(HEAD + "a=1", c + "2;}");
                faultBehind("method m(a,b){}", "" + c);
            }
        }
        for (char c : signs.toCharArray()) {
            fault("@" + c);
            fault("method m(a,b){}@" + c);
        }
    }

    /** TOKENS, from the left, each as long as may be. */
    private static void tokensAsLongAsMayBe() {
        body("a==b;");
        body("a= @=b;");
        body("a==@=b;");
        body("a==@==b;");
        body("var x@==1;");
        body("set self,n@==1;");
        body("@vara=1;");
        body("var x=1; @varx=2;");
        body("if a{}@elsea{}");
        body("@failx;");
        body("fail20;");
        body("a-1 @2;");
        body("1@a;");
        body("a @1;");
        body("@aa;");
        due("var x=4; x = x==4; answer x;", "0 1:1");
        due("answer 12+3;", "0 1:15");
        due("answer 007-0;", "0 1:7");
    }

    /** The end (at its length) being one with which no text goes on. */
    private static void tokensAtTheEnd() {
        String whole = "method k(){} " + HEAD + "var x=[|y| y;]!(a.n(b)==12); guard{fail 20,x;}on 3 e{set a,n=above.p;}ensure{while a<3{}}}";
        Shop.due("the whole", Shop.fault(whole), -1);
        for (int n = 0; n < whole.length(); n++) {
            String part = whole.substring(0, n);
            char last = n == 0 ? ' ' : part.charAt(n - 1);
            if (n == 12 || n == 13) {
                Shop.due("fault of " + part, Shop.fault(part), -1);
            } else if (last == '=' && whole.charAt(n) == '=') {
                // the first half of == is the sign =, with which the argument does not go on
                Shop.due("fault of " + part, Shop.fault(part), n - 1);
            } else if (Character.isLetterOrDigit(last)) {
                // a word or numeral that is cut may be another one: then the fault is at its first byte
                int fault = Shop.fault(part);
                Shop.due("fault of " + part + " is in its last token or at the end", fault >= n - 8 && fault <= n ? 1 : 0, 1);
            } else {
                Shop.due("fault of " + part, Shop.fault(part), n);
            }
        }
        fault(HEAD + "a==@");
        fault(HEAD + "a=@");
        fault(HEAD + "a@");
        fault(HEAD + "1@");
        fault(HEAD + "a.n@");
        fault(HEAD + "if@");
        fault(HEAD + "}@m");
        fault(HEAD + "a;} \n ");
        fault(HEAD + " \n @");
    }

    /** WORDS: one to eight of a .. z (a longer one is no token). NUMERALS: one to nine digits. */
    private static void wordsAndNumerals() {
        due("var abcdefgh=5; answer abcdefgh;", "0 1:5");
        due("var z=6; answer z;", "0 1:6");
        body("var @abcdefghi=5;");
        body("var @abcdefghijklmnopqrstuvwxyz=5;");
        body("a.@abcdefghi;");
        body("a.abcdefgh;");
        fault("@methodmeth m(){}");
        fault("method @mmmmmmmmm(){}");
        due("answer 999999999;", "0 1:999999999");
        due("answer 000000001;", "0 1:1");
        body("@0000000001;");
        body("@9999999999;");
        body("@123456789012345678901234567890;");
        body("fail @0000000020;");
        body("guard{}on @0000000000 e{}");
        // two words that are the same but for their eighth letter
        due("var abcdefgh=1; var abcdefgi=2; var bcdefgh=3; answer abcdefgh*100+abcdefgi*10+bcdefgh;", "0 1:123");
        due("add lobby,zzzzzzzz=1; add lobby,zzzzzzz=2; add lobby,z=3; add lobby,a=4; answer self.zzzzzzzz*1000+self.zzzzzzz*100+self.z*10+self.a;", "0 1:1234");
    }

    /** KEYWORDS: ...; other words are free. */
    private static void keywords() {
        for (String k : ("method var if else while return answer write fail guard on ensure set add give drop link unlink"
            + " clone new nil self lobby above").split(" ")) {
            fault("method @" + k + "(){}");
            fault("method m(@" + k + "){}");
            body("var @" + k + "=1;");
            body("a.@" + k + ";");
            body("set a,@" + k + "=1;");
            body("drop a,@" + k + ";");
            body("give a,n,@" + k + ";");
            body("[|@" + k + "|];");
            body("guard{}on 0 @" + k + "{}");
            String near = k.substring(0, k.length() - 1) + "q";
            due("var " + near + "=8; answer " + near + ";", "0 1:8");
        }
        for (String k : "method else on ensure".split(" ")) {
            body("@" + k + ";");
            body("answer @" + k + ";");
        }
        for (String k : "var if while return answer write fail guard set add give drop link unlink".split(" ")) {
            body("answer @" + k + ";");
        }
    }

    /** A token that makes too much: the word method of a 41st METHOD. */
    private static void fortyMethods() {
        StringBuilder text = new StringBuilder();
        for (int m = 0; m < 40; m++) {
            text.append("method ").append(word(m)).append("(a,b){answer ").append(m).append(";}");
        }
        DelegationShop shop = new DelegationShop();
        Shop.due("load()", Shop.load(shop, text.toString()), 40);
        for (int m = 0; m < 40; m++) {
            Shop.due("run(" + m + ")", shop.run(m, 1, 2), 0);
            Shop.due("answer", shop.latest(1), m);
            Shop.due("calls", shop.calls(m), 1);
        }
        Shop.throwing("calls(40)", IndexOutOfBoundsException.class, () -> shop.calls(40));
        Shop.throwing("run(40)", IllegalArgumentException.class, () -> shop.run(40, 0, 0));
        fault(text + "@method");
        fault(text + "@method waa(){}");
        fault(text + " \n@method x(){}");
        fault(text + "@x");
    }

    /** A parameter or argument that is the 5th (at its first token). */
    private static void fourParametersAndArguments() {
        due("var f=[|p,q,r,s| answer p*1000+q*100+r*10+s;]; answer f!(1,2,3,4);", "0 1:1234");
        Shop.same("four arguments", Shop.doing("method k(p,q,r,s){answer p*1000+q*100+r*10+s;} ", 1, "give self,k,k; answer self.k(1,2,3,4);", 0, 0), "0 1:1234");
        fault("method m(a,b,c,d,@e){}");
        fault("method m(a,b,c,d,@a){}");
        fault("method m(a,b,c,d,@1){}");
        fault("method m(a,b,c,d @e){}");
        body("[|p,q,r,s,@t|];");
        body("[|p,q,r,s,@||];");
        body("a.n(1,2,3,4,@(5));");
        body("a.n(1,2,3,4,@x);");
        body("a.n(1,2,3,4,@));");
        body("a!(1,2,3,4,@[]);");
        body("above.n(1,2,3,4,@-5);");
        body("a.n(1,2,3,a.n(1,2,3,4,@5));");
        body("a.n(a.n(1,2,3,4),a!(1,2,3,4),3,4);");
    }

    /** A declared word that is the 13th of its scope. */
    private static void twelveWords() {
        StringBuilder vars = new StringBuilder();
        StringBuilder sum = new StringBuilder("a*2+b*3");
        for (int i = 0; i < 10; i++) {
            vars.append("var ").append(word(i)).append("=").append(i * i * 1000).append(";");
            sum.append("+").append(word(i)).append("*").append(i + 4);
        }
        long want = 7 * 2 + 3 * 3;
        for (int i = 0; i < 10; i++) {
            want += i * i * 1000L * (i + 4);
        }
        due(vars + "answer " + sum + ";", "0 1:" + want);
        due(vars + word(9) + "=" + word(9) + "+1; answer [answer " + sum + ";]!();", "0 1:" + (want + 13));
        due(vars + "answer [|x| var y=[answer " + sum + "+x;]; answer y!();]!(1);", "0 1:" + (want + 1));
        body(vars + "var @x=1;");
        body(vars + "if a{var @x=1;}");
        body(vars + "guard{}on 0 @x{}");
        body(vars + "[var x=1;]; var @x=1;");
        body("[|x,y|" + vars + "];");
        body("[|x,y,z|" + vars.substring(0, vars.lastIndexOf("var")) + "];");
        body("[|x,y,z|" + vars.substring(0, vars.lastIndexOf("var")) + "var @u=1;];");
        body("[|x,y|" + vars + "var @z=1;];");
        // on's word may be the twelfth: it holds the FAILURE's VALUE there
        due(vars.substring(0, vars.lastIndexOf("var")) + "guard{fail 20,a;}on 20 e{answer e*10+b;}", "0 1:73");
        fault("method m(a,b,c,d){" + vars.substring(0, vars.indexOf("var " + word(8))) + "var @x=1;}");
        fault("method m(){" + vars + "var x=1; var y=1; var @z=1;}");
    }

    /** The N of a 151st SITE. */
    private static void sites() {
        StringBuilder text = new StringBuilder(HEAD);
        int[] places = new int[150];
        for (int i = 0; i < 150; i++) {
            String piece = i % 3 == 0 ? "self." : i % 3 == 1 ? "above." : "set self,";
            places[i] = text.length() + piece.length();
            text.append(piece).append(i % 3 == 2 ? "n=1;" : "n;");
        }
        DelegationShop shop = Shop.of(2, text + "} method k(a,b){add self,n=5; link self,new; add a,n=1;}");
        Shop.due("sites", shop.count(2), 150);
        for (int i = 0; i < 150; i++) {
            Shop.due("kind of " + i, shop.site(i, 0), i % 3);
            Shop.due("place of " + i, shop.site(i, 8), places[i]);
        }
        Shop.throwing("site(150)", IndexOutOfBoundsException.class, () -> shop.site(150, 0));
        fault(text + "self.@n;}");
        fault(text + "self.@;}");
        fault(text + "above.@n;}");
        fault(text + "set self,@n=1;}");
        fault(text + "}method k(){self.@n;}");
        fault(text + "drop self,n; add self,n=1; give self,n,m;}");
        fault(text + "self!(1);}");
    }

    /** A 101st NAME (the number 0 is lost's). */
    private static void names() {
        StringBuilder text = new StringBuilder(HEAD);
        for (int i = 0; i < 99; i++) {
            text.append(i % 3 == 0 ? "drop self," + word(i) + ";" : i % 3 == 1 ? "give self," + word(i) + ",m;" : "add self," + word(i) + "=1;");
        }
        DelegationShop shop = Shop.of(2, text + "drop self," + word(98) + "; self." + word(0) + "; self.lost;}");
        Shop.due("names", shop.count(1), 100);
        for (int i = 0; i < 99; i++) {
            Shop.due("the last letter of NAME " + (i + 1), shop.nameByte(i + 1, 2), 'a' + i % 26);
        }
        Shop.due("a slot of the last NAME", shop.change(0, 0, 99, 4), 0);
        Shop.due("held", shop.held(0, 99, 1), 4);
        Shop.throwing("nameByte(100)", IndexOutOfBoundsException.class, () -> shop.nameByte(100, 0));
        fault(text + "self.@x;}");
        fault(text + "above.@x;}");
        fault(text + "set self,@x=1;}");
        fault(text + "drop self,@x;}");
        fault(text + "add self,@x=1;}");
        fault(text + "give self,@x,m;}");
        fault(text + "give self," + word(3) + ",@x;}");
        fault(text + "} method k(x){x;}");
        fault(text + "} method k(x){x.@y;}");
    }

    /** The [ of a 61st block literal. */
    private static void literals() {
        String sixty = "a=[answer 1;];".repeat(59) + "answer [answer 8;]!();";
        due(sixty, "0 1:8");
        DelegationShop shop = Shop.of(0, HEAD + sixty + "}");
        Shop.due("literals", shop.count(3), 60);
        fault(HEAD + "[];".repeat(60) + "}");
        fault(HEAD + "[];".repeat(60) + "@[");
        fault(HEAD + "[];".repeat(58) + "[[];];@[];}");
        fault(HEAD + "[];".repeat(58) + "[[@[];];];}");
        fault(HEAD + "[];".repeat(60) + "}method k(){@[];}");
    }

    /** A { ( [ with which more than 20 of these would be open. */
    private static void twentyBrackets() {
        // the body's own bracket is the first
        due("answer " + "(".repeat(19) + "a" + ")".repeat(19) + ";", "0 1:7");
        due("answer " + "[answer ".repeat(19) + "b" + ";]!()".repeat(19) + ";", "0 1:3");
        due("if a{".repeat(19) + "write b;" + "}".repeat(19), "0 0:0 1:3");
        due("guard{".repeat(19) + "fail 20,b;" + "}on 20 e{write e;}" + "}ensure{write 5;}".repeat(18), "0 0:0 1:3" + " 1:5".repeat(18));
        due("var f=" + "[".repeat(18) + "write 1;" + "];".repeat(17) + "]; f!();", "0 0:0");
        for (String[] pair : new String[][] {{"(", "a)"}, {"[", "]"}, {"clone(", "a)"}, {"a.n(", ")"}, {"a!(", ")"}, {"above.n(", ")"}}) {
            String in = pair[0];
            String opened = "(".repeat(19);
            body("(".repeat(18) + in + pair[1] + ")".repeat(18) + ";");
            body(opened + in.substring(0, in.length() - 1) + "@" + in.substring(in.length() - 1) + pair[1] + ")".repeat(19) + ";");
        }
        for (String[] two : new String[][] {{"if a", "{}"}, {"if a", "{}else{}"}, {"while a", "{}"}, {"guard", "{}on 0 e{}"}, {"guard", "{}ensure{}"}}) {
            body("if a{".repeat(18) + two[0] + two[1] + "}".repeat(18));
            body("if a{".repeat(19) + two[0] + "@" + two[1] + "}".repeat(19));
        }
        body("if a{".repeat(18) + "if a{}else{if b@{}}" + "}".repeat(18));
        body("if a{".repeat(18) + "guard{}on 0 e{if b@{}}" + "}".repeat(18));
        body("if a{".repeat(18) + "guard{}ensure{if b@{}}" + "}".repeat(18));
        // what was closed is open no more
        body("(".repeat(19) + "a" + ")".repeat(19) + "+" + "(".repeat(19) + "a" + ")".repeat(19) + ";" + "[".repeat(19) + "];".repeat(19));
    }

    /** give: the word is a METHOD of the text that is declared before, or the one in which it stands. */
    private static void methodsOfGive() {
        fault("method a(){give lobby,n,a;}");
        fault("method a(){} method m(){give lobby,n,a; give lobby,n,m;}");
        fault("method m(){give lobby,n,@a;} method a(){}");
        fault("method a(){give lobby,n,@1;}");
        fault("method a(){var b=1; give lobby,n,@b;}");
        fault("method a(x){give lobby,n,@x;}");
        fault("method a(){give lobby,n,@lost;}");
        fault("method a(){[give lobby,n,a;];}");
        fault("method a(){give lobby,n,@self;}");
        fault("method a(){give lobby,n,@;}");
    }

    /** The numeral of fail that is not 20 .. 99, of on that is not 0 .. 99. */
    private static void kindsOfFailAndOn() {
        for (int n = 0; n <= 130; n++) {
            body("fail " + (n < 20 || n > 99 ? "@" : "") + n + ";");
            body("guard{}on " + (n > 99 ? "@" : "") + n + " e{}");
        }
        body("fail @999999999;");
        body("guard{}on @999999999 e{}");
        body("fail 00020;");
        body("fail @-20;");
        due("guard{fail 99;} on 98 e{write 1;} on 99 f{write 2;}", "0 0:0 1:2");
        due("guard{fail 20;} on 19 e{write 1;} on 21 f{write 2;} on 000 g{write 3;}", "0 0:0 1:3");
    }

    /** A word (at its first byte) that is declared in a scope, or as a METHOD, that has it already. */
    private static void declaredTwice() {
        fault("method m(a,b,@a){}");
        fault("method m(a){var @a=?;}");
        fault("method m(){var x=1; if x{var @x=1;}}");
        fault("method m(){var x=1; guard{}on 0 @x{}}");
        fault("method m(){guard{}on 0 x{}on 1 @x{}}");
        fault("method m(){guard{var x=1;}on 0 @x{}}");
        fault("method m(){guard{}on 0 x{var @x=1;}}");
        fault("method m(){guard{}on 0 x{}ensure{var @x=1;}}");
        fault("method m(){[|x,@x|];}");
        fault("method m(){[|x| var @x=1;];}");
        fault("method m(){} method @m(){}");
        fault("method m(){} method k(){} method @m ?");
        fault("method m(m){var n=m; [|m| var n=m;];}");
        fault("method m(a){var x=[|a| var x=a;];}");
        fault("method m(x){} method k(x){}");
    }

    /** var: behind the whole statement; on: from its word on. */
    private static void declaredBehind() {
        body("var x=@x;");
        body("var x=[@x;];");
        body("var x=[@x=1;];");
        body("@x=1;var x=1;");
        body("[@x;];var x=1;");
        body("guard{@e;}on 0 e{e=e;}");
        body("guard{}on 0 e{e;}on 1 f{e;f;}ensure{e;f;}");
        body("guard{}on 0 e{@f;}on 1 f{}");
        body("if 0{var x=1;}else{x;}x=2;");
        body("while 0{var x=1;}x;");
        due("var x=1; answer [var y=x; var x=y+1; answer x;]!();", "0 1:2");
        due("var x=1; var f=[var x=x+1; answer x;]; answer f!()*10+x;", "0 1:21");
        due("var x=1; [x=2; var x=3; x=4;]!(); answer x;", "0 1:2");
    }

    /** A word is the one declared in the innermost scope that has it, from the scope where it stands out to the method's. */
    private static void wordsOfTheInnermostScope() {
        due("var x=1; [|x| x=x+1; write x; [|y| x=x+y; write x;]!(10);]!(5); answer x;", "0 1:1 1:6 1:16");
        due("var x=1; [[[x=x+1;]!(); var x=50; [x=x+1; write x;]!();]!();]!(); answer x;", "0 1:2 1:51");
        String deep = "[".repeat(17) + "x=x+1; write x;" + "]!();".repeat(17);
        due("var x=1; " + deep + " answer x;", "0 1:2 1:2");
        body("[|x| [|y| @z;];];");
        body("[var x=1;];@x;");
        fault("method m(x){} method k(){@x;}");
        fault("method m(){[|x|];[@x;];}");
    }

    /** guard body { on .. } [ ensure body ], with one on or ensure at least. */
    private static void guardsOfOneOnOrEnsure() {
        body("guard{}@");
        body("guard{}@;");
        body("guard{}@a;");
        body("guard{}@guard{}ensure{}");
        body("guard{}ensure{}");
        body("guard{}on 0 e{}");
        body("guard{}ensure{}@ensure{}");
        body("guard{}ensure{}@on 0 e{}");
        StringBuilder ons = new StringBuilder();
        for (int i = 0; i < 10; i++) {
            ons.append("on ").append(20 + i).append(" ").append(word(i)).append("{answer ").append(i).append(";}");
        }
        for (int i = 0; i <= 10; i++) {
            due("guard{fail " + (20 + i) + ";}" + ons, i < 10 ? "0 1:" + i : "1 30 0:0");
        }
        body("guard{}" + ons + "on 0 @x{}");
    }

    /** The FAULT of a text is the least place. */
    private static void theLeastPlace() {
        fault("method m(a,b){@x;? abcdefghi 1234567890 fail 19; }}");
        fault("method m(a,b){a;@? x;}");
        fault("method m(a,b){a;@abcdefghi x;}");
        fault("method m(a,b){fail @19 x;}");
        fault("method m(a,b){a.n(1,2,3,4,@x,?);}");
        fault("method m(a,@a,b,c,d,e){}");
        fault("@? method");
        fault("method m(a,b){}@? ?");
    }

    /** load(): all is new, however many texts were read before. */
    private static void manyLongTexts() {
        StringBuilder text = new StringBuilder();
        for (int m = 0; m < 38; m++) {
            text.append("method ").append(word(m)).append("(a,b){");
            for (int i = 0; i < 7; i++) {
                text.append("guard{}on 0 ").append((char) ('c' + i)).append("{}");
            }
            text.append("}");
        }
        text.append("method m(a,b){guard{fail 33,a;}on 33 e{answer e+1;}ensure{write 2;}}");
        DelegationShop shop = new DelegationShop();
        for (int n = 0; n < 2; n++) {
            Shop.due("load()", Shop.load(shop, text.toString()), 39);
            Shop.same("run", Shop.outcome(shop, 38, n, 0) + Shop.writtenOf(shop), "0 1:" + (n + 1) + " 1:2");
        }
        String small = HEAD + "guard{fail 33,a;}on 33 e{answer e+1;}ensure{write 2;}}";
        String other = HEAD + "guard{fail 33,a;}on 33 e{answer -e;}ensure{write 2;}}";
        for (int n = 0; n < 90; n++) {
            Shop.due("load()", Shop.load(shop, n % 2 == 0 ? small : other), 1);
            Shop.same("run", Shop.outcome(shop, 0, 5, 0), n % 2 == 0 ? "0 1:6" : "0 1:-5");
        }
        // texts with a fault at their end are read as far as that
        DelegationShop faulty = new DelegationShop();
        for (int length : new int[] {390, 190}) {
            String guards = HEAD + "guard{}ensure{}".repeat(length);
            Shop.due("load()", Shop.load(faulty, guards), -1 - guards.length());
        }
        Shop.due("load()", Shop.load(faulty, HEAD + "guard{guard{fail 33,a;}ensure{write 1;}}on 33 e{answer e+1;}ensure{write 2;}}"), 1);
        Shop.same("run", Shop.outcome(faulty, 0, 5, 0) + Shop.writtenOf(faulty), "0 1:6 1:1 1:2");
        StringBuilder literal = new StringBuilder("[guard{}");
        for (int i = 0; i < 12; i++) {
            literal.append("on 0 ").append((char) ('a' + i)).append("{}");
        }
        DelegationShop ons = new DelegationShop();
        for (int length : new int[] {56, 29}) {
            String literals = HEAD + (literal + "];").repeat(length);
            Shop.due("load()", Shop.load(ons, literals), -1 - literals.length());
        }
        Shop.due("load()", Shop.load(ons, small), 1);
        Shop.same("run", Shop.outcome(ons, 0, 5, 0) + Shop.writtenOf(ons), "0 1:6 1:2");
    }
}
