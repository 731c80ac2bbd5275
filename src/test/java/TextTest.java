/** Promise 4: which texts load() takes, and where it finds the fault of the others. */
public final class TextTest {
    public static void main(String[] args) {
        tokens();
        grammar();
        statements();
        expressions();
        declarations();
        numerals();
        limitsOfTheText();
        limitsOfScopesAndBrackets();
        leastPlace();
        Shop.finish();
    }

    /** The fault of a text in which the sign @ stands before the place where it is due; without @ there is none. */
    private static void fault(String marked) {
        int at = marked.indexOf('@');
        String text = marked.replace("@", "");
        Shop.due("fault of " + text, Shop.fault(text), at);
    }

    /** The same of statements in a method m(a,b), behind a method k. */
    private static void body(String marked) {
        fault("method k(){} method m(a,b){" + marked + "}");
    }

    private static void tokens() {
        fault("@");
        fault("  \n@");
        fault("@?");
        fault("@\tmethod m(){}");
        fault("@Method m(){}");
        fault("@\u00e9");
        fault("method m(){}");
        fault("\n method\nm\n(\n)\n{\n}\n");
        fault("method abcdefgh(){}");
        fault("method @abcdefghi(){}");
        fault("method m(){}@\u0000");
        body("123456789;");
        body("@1234567890;");
        body("1 @23;");
        body("12@ab;");
        body("a==b;");
        body("a= @=b;");
        body("a==@=b;");
        body("a<@<b;");
        body("a!@=b;");
    }

    private static void grammar() {
        fault("@m(){}");
        fault("method@");
        fault("method @1(){}");
        fault("method @method(){}");
        fault("method m@{}");
        fault("method m(@,){}");
        fault("method m(a @b){}");
        fault("method m(a,@){}");
        fault("method m(a@");
        fault("method m()@");
        fault("method m()@;");
        fault("method m(){@");
        fault("method m(){}@}");
        fault("method m(){}method k(){}");
        fault("method m(){}@,method k(){}");
        fault("method m(){} @1");
    }

    private static void statements() {
        body("@;");
        body("var x=1;");
        body("var @1=1;");
        body("var x@;");
        body("var x=@;");
        body("var x=1@");
        body("set a,n=1;");
        body("set a.@;");
        body("set a,n@==1;");
        body("set a,n@,1;");
        body("set a,@self=1;");
        body("add a,n=1;");
        body("add a,n@;");
        body("add @,n=1;");
        body("give a,n,k;");
        body("give a,n,m;");
        body("give a,n@=k;");
        body("give a,n,@1;");
        body("drop a,n;");
        body("drop a,@1;");
        body("drop a@;");
        body("link a,b;");
        body("link a@;");
        body("unlink a,b;");
        body("unlink a,b@,a;");
        body("if a{}");
        body("if a{}else{}");
        body("if a@;");
        body("if a{}else @if b{}");
        body("@else{}");
        body("while a{}");
        body("while a{}@else{}");
        body("while @{}");
        body("return a; answer a; write a;");
        body("return @;");
        body("answer a@,b;");
        body("write @;");
        body("guard{}on 0 e{}");
        body("guard{}ensure{}");
        body("guard{}on 5 e{}on 0 f{}ensure{}");
        body("guard{}@a;");
        body("guard{}ensure{}@on 0 e{}");
        body("guard{}ensure{}@ensure{}");
        body("guard{}on 0@{}");
        body("guard{}on @e{}");
        body("guard @a;");
        body("@on 0 e{}");
        body("@ensure{}");
    }

    private static void expressions() {
        body("a<b; a>b; a==b; a+b-a*b/a%b; - - -a; -a*-b;");
        body("a<b@<a;");
        body("a==b@>a;");
        body("a+@;");
        body("a @b;");
        body("(a<b)<a;");
        body("(a@;");
        body("(@);");
        body("a.n; a.n(); a.n(1,2,3,4).p!()!(a).q;");
        body("a.@;");
        body("a.@1;");
        body("a.n(1,@);");
        body("a.n(1@;");
        body("a!@;");
        body("a!@a;");
        body("a@(1);");
        body("above.n; above.n(1); above.n.p;");
        body("above@;");
        body("above@!();");
        body("1.n; nil.n; self.n; lobby.n; new.n; clone(a).n;");
        body("clone @a;");
        body("clone(@);");
        body("[]; [|x|]; [|x,y| x; y;]; [a;]; [answer 1;]!();");
        body("[|@|];");
        body("[|x@;];");
        body("[|x,@|];");
        body("[a@];");
        body("[@);");
        body("a=b@=c;");
        body("@=1;");
        body("a.n@=1;");
        body("@+a;");
    }

    private static void declarations() {
        body("@x;");
        body("@x;");
        body("var x=@x;");
        body("@x=1;");
        body("var x=1;var @x=2;");
        body("var @a=2;");
        body("guard{}on 0 e{e;}on 0 @e{}");
        body("guard{@e;}on 0 e{}");
        body("guard{}on 0 e{}e;");
        body("guard{}on 0 @a{}");
        body("if a{var x=1;}x;");
        body("if a{var x=1;}else{var @x=1;}");
        body("[@x;];");
        body("[var x=1;]; @x;");
        body("[var a=1; a; [var a=2; a=3; b;];];");
        body("[|a| a;]; a;");
        body("[|x| x;]; [|x| x;];");
        body("[|x,@x|];");
        body("var x=[answer @x;];");
        body("[@y;];var y=1;");
        body("var k=1; var m=2;");
        body("give a,k,@n;");
        body("give a,k,@a;");
        fault("method m(a,@a){}");
        fault("method m(){}method @m(){}");
        fault("method m(){give lobby,n,@k;}method k(){}");
        fault("method m(a){}method k(){@a;}");
        fault("method lost(lost){lost=1;lost.lost;}");
    }

    private static void numerals() {
        body("fail 20; fail 99,a; fail 000020;");
        body("fail @19;");
        body("fail @100;");
        body("fail @;");
        body("fail @a;");
        body("fail 20,@;");
        body("fail 20 @a;");
        body("guard{}on 0 e{}on 99 f{}on 007 g{}");
        body("guard{}on @100 e{}");
        body("999999999;");
    }

    private static String word(int n) {
        return "w" + (char) ('a' + n / 26) + (char) ('a' + n % 26);
    }

    private static void limitsOfTheText() {
        StringBuilder methods = new StringBuilder();
        for (int m = 0; m < 40; m++) {
            methods.append("method ").append(word(m)).append("(){}");
        }
        fault(methods.toString());
        fault(methods + "@method x(){}");
        StringBuilder sites = new StringBuilder("method m(){");
        for (int i = 0; i < 150; i++) {
            sites.append(i % 3 == 0 ? "self.n;" : i % 3 == 1 ? "above.n;" : "set self,n=1;");
        }
        fault(sites + "}");
        fault(sites + "add self,n=1;}");
        fault(sites + "self.@n;}");
        fault(sites + "set self,@n=1;}");
        fault(sites + "above.@n;}");
        StringBuilder names = new StringBuilder("method m(){self.lost;");
        for (int i = 0; i < 99; i++) {
            names.append(i % 2 == 0 ? "add self," + word(i) + "=1;" : "drop self," + word(i) + ";");
        }
        fault(names + "drop self," + word(5) + ";}");
        fault(names + "drop self,@x;}");
        fault(names + "self.@x;}");
        fault(names + "give self,@x,m;}");
        String literals = "method m(){" + "[];".repeat(60);
        fault(literals + "}");
        fault(literals + "@[];}");
    }

    private static void limitsOfScopesAndBrackets() {
        fault("method m(a,b,c,d){}");
        fault("method m(a,b,c,d,@e){}");
        fault("method m(a,b,c,d,@,){}");
        body("[|a,b,c,d|]!(1,2,3,4);");
        body("[|a,b,c,d,@e|];");
        body("a.n(1,2,3,4,@-5);");
        body("a!(1,2,3,4,@5);");
        StringBuilder words = new StringBuilder();
        for (int i = 0; i < 10; i++) {
            words.append("var ").append(word(i)).append("=1;");
        }
        body(words.toString());
        body(words + "var @x=1;");
        body(words + "guard{}on 0 @e{}");
        body(words + "[|x,y| var z=1;];");
        body("[" + words + "var x=1;var y=1;var @z=1;];");
        body("(".repeat(19) + "a" + ")".repeat(19) + ";");
        body("(".repeat(19) + "@(a" + ")".repeat(20) + ";");
        body("[".repeat(19) + "];".repeat(19));
        body("[".repeat(19) + "@[" + "];".repeat(20));
        body("if a{".repeat(19) + "}".repeat(19));
        body("if a{".repeat(19) + "if a@{" + "}".repeat(20));
        body("[".repeat(18) + "a.n(b);" + "];".repeat(18));
        body("[".repeat(19) + "a.n@(b);" + "];".repeat(19));
        body("[".repeat(18) + "clone(a);" + "];".repeat(18));
        body("[".repeat(19) + "clone@(a);" + "];".repeat(19));
        body("a.n(".repeat(19) + "a" + ")".repeat(19) + ";");
        body("a.n(".repeat(19) + "a.n@(a" + ")".repeat(20) + ";");
        body("a!(1,".repeat(19) + "a" + ")".repeat(19) + ";");
        body("a!(1,".repeat(19) + "a!@(a" + ")".repeat(20) + ";");
        body("clone(".repeat(19) + "a" + ")".repeat(19) + ";");
        body("clone(".repeat(19) + "above.n@(a" + ")".repeat(20) + ";");
        body("while a{if b{}else{guard{}on 0 e{[|x| x.n((a),b)!(@c);];}}}");
        body("guard{}ensure{" + "(".repeat(18) + "a" + ")".repeat(18) + ";}");
    }

    /** What is wrong further behind does not count. */
    private static void leastPlace() {
        fault("method m(){@x; ? }");
        fault("method m(){@? x; }");
        fault("method m(){1 @} abcdefghi");
        fault("method m(){fail @1; 1234567890; }");
        fault("method m(a){var @a=?;}");
        fault("method m(){set self,@if=?;}");
    }
}
