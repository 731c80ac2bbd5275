/**
 * The sentences of sections 4 and 5 of the document that name a boundary case, one after another: each method's comment
 * is the sentence whose case it tries.
 */
public final class EdgesOfRunsTest {
    private static final long MIN = Long.MIN_VALUE;
    private static final long MAX = Long.MAX_VALUE;

    public static void main(String[] args) {
        sixtyUnderWay();
        sixtyWithAllBracketsOpen();
        fourThousandSteps();
        whereStepsAreTaken();
        whatIsNoNumber();
        exactResults();
        quotients();
        samenessOfValues();
        clonesHoldTheSame();
        wordsThatAreNil();
        fiveHundredBlocks();
        roomsOfWords();
        howManyArguments();
        startsOfAbove();
        handlers();
        callsOfBlocks();
        setsOfNothing();
        changesInTheirOrder();
        changesWithinExps();
        endsOfMethodsAndBlocks();
        returnsFromAfar();
        guardsInTurn();
        manyGuards();
        outcomes();
        kindsAndValues();
        placesOfWhile();
        causes();
        keptFailures();
        Shop.finish();
    }

    private static void due(String statements, String want) {
        Shop.same(statements, Shop.doing(statements, 7, 3), want);
    }

    private static void due(String methods, int many, String statements, String want) {
        Shop.same(methods + statements, Shop.doing(methods, many, statements, 7, 3), want);
    }

    private static void sum(String exp, long a, long b, String want) {
        Shop.same(exp + " of " + a + ", " + b, Shop.doing("answer " + exp + ";", a, b), want);
    }

    /** At most 60 are under way at once: a 61st ends the RUN: DEPTH. */
    private static void sixtyUnderWay() {
        String text = "method down(n){if n>0 {self.down(n-1);} answer n;} method go(a,b){give self,down,down; answer self.down(a);}"
            + " method mix(n){if n>0 {[self.mix(n-1);]!();} answer n;} method both(a,b){give self,mix,mix; if b {[self.mix(a);]!();} answer self.mix(a);}";
        for (int manner = 0; manner <= 2; manner++) {
            DelegationShop shop = Shop.of(manner, text);
            Shop.due("sixty", shop.run(1, 58, 0), 0);
            Shop.due("begun", shop.latest(6), 60);
            Shop.due("answer", shop.latest(1), 58);
            Shop.due("sixty-one", shop.run(1, 59, 0), 3);
            Shop.due("the 61st is not begun", shop.latest(6), 60);
            Shop.due("nor kept", shop.begun(59, 0), 0);
            Shop.throwing("begun(60)", IndexOutOfBoundsException.class, () -> shop.begun(60, 0));
            Shop.due("calls", shop.calls(0), 59 + 59);
            Shop.due("failures", shop.latest(4), 0);
            Shop.due("left by", shop.latest(3), -1);
            Shop.due("answer", shop.latest(0) + shop.latest(1), 0);
            // each turn's statement and message, give and the statement and message of go; the message that is too deep took its step
            Shop.due("steps", shop.latest(2), 3 + 3 * 59);
            // blocks count, too: go, mix and then a block and a mix in turn
            Shop.due("a method and 29 pairs", shop.run(3, 29, 0), 0);
            Shop.due("a method, a block and 29 pairs", shop.run(3, 28, 1), 0);
            Shop.due("a block as the 61st", shop.run(3, 30, 0), 3);
            Shop.due("methods begun", shop.latest(6), 31);
            Shop.due("a method as the 61st", shop.run(3, 29, 1), 3);
            Shop.due("methods begun", shop.latest(6), 30);
        }
        // behind their end they are under way no more
        due("method k(){answer 1;} ", 1, "give self,k,k; var s=0; while s<200 {s=s+self.k;} answer s;", "0 1:200");
        due("method k(){fail 20;} ", 1, "give self,k,k; var s=0; while s<200 {guard{self.k;}on 20 e{s=s+1;}} answer s;", "0 1:200");
        due("method k(f){f!();} method j(){self.k([return 1;]); answer 9;} ", 2, "give self,k,k; give self,j,j; var s=0; while s<200 {s=s+self.j;} answer s;", "0 1:200");
    }

    /** More than 20 brackets may not be open, nor more than 60 be under way: with both there is room for all values. */
    private static void sixtyWithAllBracketsOpen() {
        String in = "1<2+3*f!(4,5,6,".repeat(17);
        String text = "method down(n){if n==0 {answer 8;} var f=[|p,q,r,s| answer s;]; answer " + in + "1<2+3*self.down(n-1)" + ")".repeat(17)
            + ";} method go(a,b){give self,down,down; answer 5-self.down(a);}";
        for (int manner = 0; manner <= 2; manner++) {
            DelegationShop shop = Shop.of(manner, text);
            Shop.same("a deep sum", Shop.outcome(shop, 1, 57, 0), "0 1:4");
            Shop.same("a deep sum again", Shop.outcome(shop, 1, 57, 0), "0 1:4");
            Shop.same("too deep", Shop.outcome(shop, 1, 59, 0), "3");
        }
        String guards = "guard{".repeat(18);
        String ends = "}ensure{c=c+1;}".repeat(18);
        String nested = "method down(n){var c=0; if n==0 {fail 44,n;} " + guards + "self.down(n-1);" + ends + " } method go(a,b){give self,down,down; self.down(a);}";
        Shop.same("eighteen guards in each", Shop.outcome(Shop.of(1, nested), 1, 58, 0), "1 44 1:0");
        String counts = "method down(n,o){if n==0 {fail 44,n;} " + guards + "self.down(n-1,o);" + "}ensure{set o,c=o.c+1;}".repeat(18)
            + "} method go(a,b){give self,down,down; add self,c=0; guard{self.down(a,self);}on 44 e{} answer self.c;}";
        Shop.same("each ensure is done", Shop.outcome(Shop.of(1, counts), 1, 40, 0), "0 1:" + 40 * 18);
        Shop.same("each ensure is done", Shop.outcome(Shop.of(2, counts), 1, 52, 0), "0 1:" + 52 * 18);
    }

    /** At most 4000 are taken in a RUN: the next one, instead, ends it: SPENT. */
    private static void fourThousandSteps() {
        // each turn of the loop takes two, the statement of the loop one
        String loop = "var i=0; while i<a {i=i+1;} ";
        String[][] last = {{"1;", "1"}, {"self.n;", "2"}, {"above.m;", "2"}, {"[]!();", "2"}, {"set self,n=1;", "2"}, {"while 0 {}", "1"}, {"fail 20;", "1"},
            {"guard{}ensure{}", "1"}, {"if 0 {}", "1"}, {"var j=0;", "1"}, {"answer 1;", "1"}, {"return 1;", "1"}, {"write 1;", "1"}, {"add self,n=1;", "1"}};
        for (String[] l : last) {
            for (int before = 3995; before <= 4000; before++) {
                int takes = Integer.parseInt(l[1]);
                // an if takes the one step by which the turns of two do not reach
                int turns = (before - 2) / 2;
                String odd = before % 2 == 0 ? "" : "1; ";
                DelegationShop shop = Shop.of(1, "method go(a,b){" + loop + odd + l[0] + "} method init(a,b){var p=new; add p,m=1; link self,p; add self,n=0;}");
                Shop.due("run", shop.run(1, 0, 0), 0);
                int outcome = shop.run(0, turns, 0);
                boolean fits = before + takes <= 4000;
                Shop.due("outcome of " + l[0] + " behind " + before, outcome, !fits ? 2 : l[0].startsWith("fail") ? 1 : 0);
                Shop.due("steps of " + l[0] + " behind " + before, shop.latest(2), Math.min(4000, before + takes));
                Shop.due("failures of " + l[0], shop.latest(4), fits && l[0].startsWith("fail") ? 1 : 0);
                if (shop.count(2) > 0) {
                    Shop.due("uses", shop.site(0, 4), fits ? 1 : 0);
                }
            }
        }
        // the next run has steps of its own
        DelegationShop shop = Shop.of(2, "method go(a,b){while a {} answer 7;}");
        Shop.due("spent", shop.run(0, 1, 0), 2);
        Shop.due("steps", shop.latest(2), 4000);
        Shop.same("a run behind it", Shop.outcome(shop, 0, 0, 0), "0 1:7");
        Shop.due("steps", shop.latest(2), 2);
    }

    /** STEPS are taken .. when it is to be done, behind its receiver and arguments (set: value). */
    private static void whereStepsAreTaken() {
        String[][] runs = {{"1/0;", "1"}, {"self.n(1/0);", "1"}, {"(1/0).n;", "1"}, {"above.n(1/0);", "1"}, {"[]!(1/0);", "1"}, {"set 1/0,n=1;", "1"},
            {"set self,n=1/0;", "1"}, {"set self,n=1;", "2"}, {"self.n;", "2"}, {"above.n;", "2"}, {"5!();", "2"}, {"[]!(1);", "2"},
            {"self.n(self.n);", "2"}, {"while 1/0 {}", "1"}, {"var i=1; while 1/i {i=0; 5;}", "5"}, {"if 1/0 {}", "1"}, {"if 1 {1/0;}", "2"},
            {"guard{1/0;}ensure{}", "2"}, {"guard{1/0;}on 5 e{1;}ensure{1; 1;}", "5"}, {"while 0 {} while 0 {}", "2"},
            {"add self,k=[|p| answer p+1;]; self.k!(self.k!(1));", "8"}};
        for (String[] run : runs) {
            for (int manner = 0; manner <= 2; manner++) {
                DelegationShop shop = Shop.of(manner, "method go(a,b){" + run[0] + "}");
                shop.run(0, 1, 2);
                Shop.same("steps of " + run[0], Long.toString(shop.latest(2)), run[1]);
            }
        }
    }

    /** + - * / % < > - ask for two NUMBERS (a unary one for one): else FAILURE 3. */
    private static void whatIsNoNumber() {
        for (String sign : new String[] {"+", "-", "*", "/", "%", "<", ">"}) {
            for (String no : new String[] {"nil", "lobby", "new", "[]"}) {
                due("answer a" + sign + no + ";", "1 3 0:0");
                due("answer " + no + sign + "a;", "1 3 0:0");
                due("answer " + no + sign + no + ";", "1 3 0:0");
                due("answer " + no + sign + "0;", "1 3 0:0");
            }
        }
        for (String no : new String[] {"nil", "self", "new", "[]"}) {
            due("answer -" + no + ";", "1 3 0:0");
            due("answer --" + no + ";", "1 3 0:0");
            due("answer " + no + "==1;", "0 1:0");
        }
        due("answer nil+(1/0);", "1 5 0:0");
        due("answer (1/0)+nil;", "1 5 0:0");
    }

    /** Exact results of 64 bits with a sign, else FAILURE 4. */
    private static void exactResults() {
        long[] edges = {MIN, MIN + 1, -4294967296L, -3037000500L, -3037000499L, -2, -1, 0, 1, 2, 3037000499L, 3037000500L, 4294967296L, MAX - 1, MAX};
        DelegationShop shop = Shop.of(0, "method p(a,b){answer a+b;} method m(a,b){answer a-b;} method t(a,b){answer a*b;} method n(a,b){answer -a;}");
        int calls = 0;
        for (long a : edges) {
            for (long b : edges) {
                java.math.BigInteger x = java.math.BigInteger.valueOf(a);
                java.math.BigInteger y = java.math.BigInteger.valueOf(b);
                java.math.BigInteger[] want = {x.add(y), x.subtract(y), x.multiply(y), x.negate()};
                calls += 8;
                if (calls > 480) {
                    calls = 0;
                    shop = Shop.of(0, "method p(a,b){answer a+b;} method m(a,b){answer a-b;} method t(a,b){answer a*b;} method n(a,b){answer -a;}");
                }
                for (int k = 0; k < 4; k++) {
                    Shop.same("sum " + k + " of " + a + ", " + b, Shop.outcome(shop, k, a, b), want[k].bitLength() > 63 ? "1 4 0:0" : "0 1:" + want[k]);
                }
            }
        }
        sum("a+b-b", MAX, 1, "1 4 0:0");
        sum("a+(b-b)", MAX, 1, "0 1:" + MAX);
    }

    /** / and % by 0 FAILURE 5 (quotients towards 0, % with the sign of the first one, 0 by -1). */
    private static void quotients() {
        long[] edges = {MIN, MIN + 1, -8, -7, -1, 0, 1, 7, 8, MAX};
        for (long a : edges) {
            for (long b : new long[] {MIN, -3, -1, 0, 1, 3, MAX}) {
                boolean fits = !(a == MIN && b == -1);
                sum("a/b", a, b, b == 0 ? "1 5 0:0" : fits ? "0 1:" + a / b : "1 4 0:0");
                sum("a%b", a, b, b == 0 ? "1 5 0:0" : "0 1:" + (b == -1 ? 0 : a % b));
            }
        }
    }

    /** == of any two values: whether SORT and WORTH are the same. */
    private static void samenessOfValues() {
        // the object 0, the block 0, the number 0 and NIL have all the WORTH 0
        String[] values = {"nil", "0", "lobby", "f", "1", "o", "g"};
        for (int i = 0; i < values.length; i++) {
            for (int k = 0; k < values.length; k++) {
                due("var f=[]; var g=[]; var o=new; answer " + values[i] + "==" + values[k] + ";", "0 1:" + (i == k ? 1 : 0));
            }
        }
        sum("a==b", MIN, MIN, "0 1:1");
        sum("a==b", 1L << 32, 0, "0 1:0");
        sum("a==b", MIN, MAX, "0 1:0");
        due("var o=new; answer clone(o)==o;", "0 1:0");
    }

    /** clone ( e ) of an object a new one with the same items, its slots holding the same (of another value: FAILURE 6). */
    private static void clonesHoldTheSame() {
        String text = "method k(){answer 66;} method m(a,b){var o=new; add o,p=a; add o,q=nil; add o,r=self; add o,s=[answer 5;]; give o,t,k; link o,self; add o,u=o;"
            + " var c=clone(o); set o,p=99; drop o,q; write c.p; write c.q; write c.r; write c.s!(); write c.t; write c.u; write o.p; set c,p=98; write o.p; answer c;}";
        DelegationShop shop = Shop.of(2, text);
        Shop.same("run", Shop.outcome(shop, 1, 7, 3) + Shop.writtenOf(shop), "0 2:5 1:7 0:0 2:0 1:5 1:66 2:4 1:99 1:99");
        Shop.due("its items", shop.item(shop.shape(5), 0), 7);
        Shop.due("its way", shop.way(5, 1), 0);
        int[][] want = {{1, 98}, {0, 0}, {2, 0}, {3, 0}, {4, 0}, {2, 4}};
        for (int x = 1; x <= 6; x++) {
            Shop.due("held(5, " + x + ", 0)", shop.held(5, x, 0), want[x - 1][0]);
            Shop.due("held(5, " + x + ", 1)", shop.held(5, x, 1), want[x - 1][1]);
        }
        for (String no : new String[] {"1", "0", "nil", "[]", "a"}) {
            due("clone(" + no + ");", "1 6 0:0");
        }
        due("answer clone(lobby);", "0 2:4");
    }

    /** A declared word is NIL at first each time its METHOD or block begins; parameters are arguments. */
    private static void wordsThatAreNil() {
        String text = "method k(n){if n {var x=n; var y=n;} write x; write y;} method m(a,b){give self,k,k; self.k(1); self.k(0); var f=[|n| if n {var z=n;} write z;];"
            + " f!(a); f!(0); if b {var x=b;} answer x;} method junk(a,b){answer (1-(2-(3-(4-(5-(6-self.zz))))));}";
        for (int manner = 0; manner <= 2; manner++) {
            DelegationShop shop = Shop.of(manner, text);
            for (int n = 0; n < 3; n++) {
                Shop.due("junk", shop.run(2, 77, 78), 1);
                Shop.same("run", Shop.outcome(shop, 1, 9, 0) + Shop.writtenOf(shop), "0 0:0 1:1 1:1 0:0 0:0 1:9 0:0");
                Shop.same("run", Shop.outcome(shop, 1, 9, 5) + Shop.writtenOf(shop), "0 1:5 1:1 1:1 0:0 0:0 1:9 0:0");
            }
        }
        DelegationShop third = Shop.of(1, "method m(a,b){if b {var x=b;} answer x;} method junk(a,b){answer (1-(2-(3-(4-(5-self.zz)))));}");
        for (int n = 0; n < 3; n++) {
            Shop.due("junk", third.run(1, 77, 78), 1);
            Shop.same("the word behind the parameters", Shop.outcome(third, 0, 9, 0), "0 0:0");
            Shop.same("the word behind the parameters", Shop.outcome(third, 0, 9, 8), "0 1:8");
        }
        // also in a handler, which is given two arguments
        due("method lost(n,k){if k==9 {var x=1;} answer x;} ", 1, "give self,lost,lost; write 100==self.foo(1,2); answer self.foo(3);", "0 0:0 1:0");
    }

    /** At most 500 are made behind load() (FULL). (block literals that would be one too many: FAILURE 8.) */
    private static void fiveHundredBlocks() {
        DelegationShop shop = Shop.of(1, "method m(a,b){while a {[]; a=a-1;} answer [answer 1;]!();} method k(a,b){answer [];}");
        Shop.same("blocks", Shop.outcome(shop, 0, 300, 0), "0 1:1");
        Shop.due("blocks", shop.count(6), 301);
        Shop.same("blocks", Shop.outcome(shop, 0, 197, 0), "0 1:1");
        Shop.same("the 500th", Shop.outcome(shop, 1, 0, 0), "0 3:499");
        Shop.same("the 501st", Shop.outcome(shop, 1, 0, 0), "1 8 0:0");
        Shop.due("blocks", shop.count(6), 500);
        Shop.load(shop, "method m(a,b){while a {[]; a=a-1;} answer [answer 1;]!();}");
        Shop.due("blocks behind load()", shop.count(6), 0);
        Shop.same("499 blocks and one", Shop.outcome(shop, 0, 499, 0), "0 1:1");
        Shop.same("the 501st", Shop.outcome(shop, 0, 0, 0), "1 8 0:0");
    }

    /** A BLOCK goes on to see and change the words of that beginning of the METHODS and blocks around it. */
    private static void roomsOfWords() {
        String text = "method make(n){var v=n; answer [|d| v=v+d; answer v;];} method many(a,b){give self,make,make; while a {add self,f=self.make(b); a=a-1;} answer self.f!(1);}"
            + " method down(n){var w=n; if n {self.down(n-1);} if w==n {answer w;} fail 77;} method deep(a,b){give self,down,down; answer self.down(a);}"
            + " method again(a,b){answer self.f!(a);}";
        DelegationShop shop = Shop.of(2, text);
        for (int load = 0; load < 3; load++) {
            Shop.same("a beginning for each of 250 blocks", Shop.outcome(shop, 1, 250, 5), "0 1:6");
            Shop.same("sixty under way beside them", Shop.outcome(shop, 3, 58, 0), "0 1:58");
            Shop.same("250 more", Shop.outcome(shop, 1, 250, 20), "0 1:21");
            Shop.same("sixty under way beside them", Shop.outcome(shop, 3, 58, 0), "0 1:58");
            Shop.same("one too many", Shop.outcome(shop, 1, 1, 20), "1 8 0:0");
            Shop.same("sixty under way beside them", Shop.outcome(shop, 3, 58, 0), "0 1:58");
            Shop.same("a block of an earlier run", Shop.outcome(shop, 4, 7, 0), "0 1:28");
            Shop.same("a block of an earlier run", Shop.outcome(shop, 4, 7, 0), "0 1:35");
            Shop.same("sixty-one", Shop.outcome(shop, 3, 59, 0), "3");
            Shop.due("load()", Shop.load(shop, text), 5);
        }
        // the words of one that ended before those around it: what began later does not take them
        String nest = "method g(n){var v=n; answer [|d| v=v+d; answer v;];} method f(n){var w=n; var x=self.g(n*10); w=w+1; answer x;} method h(n){var y=n*1000; answer y;}"
            + " method m(a,b){give self,g,g; give self,f,f; give self,h,h; add self,k=self.f(a); self.h(1); write self.k!(1); self.h(2); self.f(9); write self.k!(1);}"
            + " method l(a,b){var p=b; var q=b; self.h(3); self.f(8); write self.k!(1); self.h(4); answer p+q;}";
        DelegationShop rooms = Shop.of(2, nest);
        Shop.same("run", Shop.outcome(rooms, 3, 5, 0) + Shop.writtenOf(rooms), "0 0:0 1:51 1:52");
        Shop.same("a later run", Shop.outcome(rooms, 4, 0, 6) + Shop.writtenOf(rooms), "0 1:12 1:53");
        Shop.same("a later run", Shop.outcome(rooms, 4, 0, 6) + Shop.writtenOf(rooms), "0 1:12 1:54");
    }

    /** How many arguments there are must be how many the METHOD has, 0 for a VALUE SLOT: else FAILURE 2. */
    private static void howManyArguments() {
        String[] lists = {"", "p", "p,q", "p,q,r", "p,q,r,s"};
        String[] given = {"", "(1)", "(1,2)", "(1,2,3)", "(1,2,3,4)"};
        for (int has = 0; has <= 4; has++) {
            for (int gets = 0; gets <= 4; gets++) {
                String want = has == gets ? "0 1:" + (50 + has) : "1 2 0:0";
                due("method k(" + lists[has] + "){answer " + (50 + has) + ";} ", 1, "give self,n,k; answer self.n" + given[gets] + ";", want);
                due("method k(" + lists[has] + "){answer " + (50 + has) + ";} method j(" + lists[gets] + "){answer above.n" + given[gets] + ";}", 2,
                    "var o=new; give o,n,k; link self,o; give self,n,j; answer self.n" + given[gets] + ";", want);
                String call = gets == 0 ? "()" : given[gets];
                due("var f=[" + (has == 0 ? "" : "|" + lists[has] + "|") + "answer " + (50 + has) + ";]; answer f!" + call + ";", want);
            }
        }
        for (int gets = 0; gets <= 4; gets++) {
            due("add self,n=60; answer self.n" + given[gets] + ";", gets == 0 ? "0 1:60" : "1 2 0:0");
            due("add self,n=nil; answer self.n" + given[gets] + ";", gets == 0 ? "0 0:0" : "1 2 0:0");
        }
        due("add self,n=60; answer self.n();", "0 1:60");
        // a block in a VALUE SLOT is what is found, and not begun
        due("add self,n=[|p| answer p;]; self.n(1);", "1 2 0:0");
    }

    /** above: START -1 if the METHOD was found at PLACE 0, h + 1 if in the WAY with HOLDER h. */
    private static void startsOfAbove() {
        String text = "method n(){write self==lobby; above.n;} method m(a,b){give self,n,n; link self,self; guard{self.n;}on 1 e{write e;}}";
        // the lobby is its own parent: from PLACE 0 the WAY is looked at from its first object, which is the lobby; behind it there is none
        Shop.same("its own parent", Shop.doing(text.substring(0, text.indexOf("method m")), 1, text.substring(text.indexOf("give"), text.length() - 1), 0, 0),
            "0 0:0 1:1 1:1 1:1");
        // the method's self is a number: its place is found from object 1
        due("method one(){answer self+100;} method two(){answer above.n+1000;} ", 2,
            "var o=new; give o,n,one; give lobby,n,two; link lobby,o; answer lobby.n;", "1 3 0:0");
        DelegationShop shop = Shop.of(2, "method one(){answer self+100;} method two(){answer above.n+1000;} method m(a,b){answer a.n;} method k(a,b){above.n;}");
        shop.change(1, 3, 2, 0);
        shop.change(1, 3, 3, 0);
        shop.change(2, 1, 1, 1);
        shop.change(3, 1, 1, 0);
        Shop.same("above of a number", Shop.outcome(shop, 2, 7, 0), "0 1:1107");
        Shop.due("its START", shop.entry(0, 0, 1), 3);
        Shop.due("its PLACE", shop.entry(0, 0, 2), 2);
        Shop.same("above of the METHOD of a RUN", Shop.outcome(shop, 3, 7, 0), "1 1 1:1");
        Shop.due("its START", shop.entry(2, 0, 1), -1);
        // a METHOD found in the WAY in a block that is run elsewhere
        due("method one(){answer 1;} method two(){answer [answer above.n+10;];} method run(f){answer f!()+100;} ", 3,
            "var o=new; var p=new; var q=new; give q,n,one; give p,n,two; link o,p; link o,q; give lobby,run,run; answer lobby.run(o.n);", "0 1:111");
    }

    /** NOT FOUND: a HANDLER .. if it is found, it is a METHOD SLOT, its METHOD has two parameters, and no METHOD begun as one is under way. */
    private static void handlers() {
        String lost = "method lost(n,k){answer n*10+k;} ";
        due(lost, 1, "give self,lost,lost; answer 1000+self.foo(1,2,3)*2;", "0 1:1026");
        due(lost, 1, "give self,lost,lost; answer self.foo(1,2,3,4)+above.bar*100;", "0 1:2014");
        due(lost, 1, "give self,lost,lost; answer self.foo()-self.foo;", "0 1:0");
        for (String parameters : new String[] {"", "n", "n,k,l", "n,k,l,o"}) {
            due("method lost(" + parameters + "){answer 1;} ", 1, "give self,lost,lost; answer self.foo(1,2);", "1 1 1:1");
        }
        due("add self,lost=[|n,k| answer 1;]; answer self.foo;", "1 1 1:1");
        due(lost, 1, "give self,lost,lost; set self,foo=1;", "1 1 1:1");
        due(lost, 1, "self.foo;", "1 1 1:1");
        due(lost, 1, "give self,lost,lost; answer self.lost(7,8);", "0 1:78");
        due(lost, 1, "give self,lost,lost; answer self.lost(7);", "1 2 0:0");
        due(lost, 1, "give lobby,lost,lost; answer self.n+new.n;", "1 1 1:1");
        // one handler at a time, wherever the message stands
        due("method lost(n,k){guard{self.other;}on 1 e{write e;} answer self.third;} ", 1, "give self,lost,lost; self.foo;", "1 1 1:2 1:1");
        due("method lost(n,k){answer self.call([answer self.other;]);} method call(f){answer f!();} ", 2, "give self,lost,lost; give self,call,call; self.foo;", "1 1 1:2");
        // behind its end, or when it was left, the next one begins
        due("method lost(n,k){answer n;} ", 1, "give self,lost,lost; write self.foo; var f=[answer self.bar;]; write self.foo; write f!(); answer self.foo;",
            "0 1:1 1:1 1:1 1:2");
        due("method lost(n,k){fail 20,n;} ", 1, "give self,lost,lost; guard{self.foo;}on 20 e{write e; guard{self.bar;}on 20 f{write f;}}", "0 0:0 1:1 1:2");
        due("method lost(n,k){answer n;} method try(f){guard{answer f!();}ensure{write self.foo;}} ", 2,
            "give self,lost,lost; give self,try,try; answer self.try([return self.bar;]);", "0 1:3 1:1");
        // its self is the receiver, a number too; object 1 is looked at
        DelegationShop shop = Shop.of(1, "method lost(n,k){answer self*100+n*10+k;} method m(a,b){answer a.foo(b);}");
        shop.change(1, 1, 0, 0);
        Shop.same("a number's handler", Shop.outcome(shop, 1, -5, 0), "0 1:-489");
        Shop.due("place of the handler", shop.begun(1, 3), 0);
        Shop.due("the site remembers that it is not found", shop.entry(0, 0, 2), -1);
    }

    /** e must be a BLOCK (else FAILURE 10) with so many parameters (else FAILURE 2). */
    private static void callsOfBlocks() {
        for (String no : new String[] {"0", "nil", "lobby", "1", "new", "self", "a"}) {
            due("var f=[answer 1;]; var g=[answer 2;]; " + no + "!();", "1 10 0:0");
            due("var f=[answer 1;]; " + no + "!(1,2,3,4);", "1 10 0:0");
        }
        due("var f=[answer 1;]; var g=[answer 2;]; answer f!()*10+g!();", "0 1:12");
        due("var f=[answer 1;]; f!(nil);", "1 2 0:0");
        due("[]!(1/0);", "1 5 0:0");
    }

    /** set: NOT FOUND: FAILURE 1 (no HANDLER); a METHOD SLOT: FAILURE 11; else the HOLDER's slot holds v. */
    private static void setsOfNothing() {
        due("set self,n=1;", "1 1 1:1");
        due("set 5,n=1;", "1 1 1:1");
        due("set self,lost=1;", "1 1 1:0");
        due("method k(){} ", 1, "var o=new; give o,n,k; link self,o; set self,n=1;", "1 11 0:0");
        due("method k(){} ", 1, "var o=new; give o,n,k; add self,n=2; link self,o; set self,n=1; answer self.n;", "0 1:1");
        due("var o=new; var p=new; add o,n=1; add p,n=2; link self,o; link self,p; set self,n=5; write o.n; write p.n; set p,n=6; write o.n; write p.n;",
            "0 0:0 1:5 1:2 1:5 1:6");
        due("add self,n=1; set self,n=nil; answer self.n;", "0 0:0");
    }

    /** e (and f) must be objects: else FAILURE 6, asked before 7; a 13th item, or FULL: FAILURE 8, asked last. */
    private static void changesInTheirOrder() {
        String twelve = "var i=0; var o=new; while i<10 {link o,new; i=i+1;} add o,p=1; give o,q,k; ";
        String[][] cases = {{"add o,p=2;", "0 0:0"}, {"add o,q=2;", "1 7 0:0"}, {"add o,r=2;", "1 8 0:0"}, {"give o,q,k;", "0 0:0"}, {"give o,p,k;", "1 7 0:0"},
            {"give o,r,k;", "1 8 0:0"}, {"link o,o;", "1 8 0:0"}, {"link o,self;", "1 8 0:0"}, {"unlink o,o;", "1 7 0:0"}, {"drop o,r;", "1 7 0:0"},
            {"drop o,p;", "0 0:0"}, {"drop o,q; link o,o; link o,self;", "1 8 0:0"}, {"drop o,q; link o,o; link o,o;", "1 7 0:0"}};
        for (String[] c : cases) {
            due("method k(){} ", 1, twelve + c[0], c[1]);
        }
        for (String no : new String[] {"0", "4", "nil", "[]"}) {
            due("method k(){} ", 1, "add self,n=1; add " + no + ",n=1;", "1 6 0:0");
            due("method k(){} ", 1, "add self,n=1; give " + no + ",n,k;", "1 6 0:0");
            due("method k(){} ", 1, "drop " + no + ",n;", "1 6 0:0");
            due("method k(){} ", 1, "link " + no + ",self;", "1 6 0:0");
            due("method k(){} ", 1, "link self," + no + ";", "1 6 0:0");
            due("method k(){} ", 1, "link self,self; link self," + no + ";", "1 6 0:0");
            due("method k(){} ", 1, "unlink " + no + ",self;", "1 6 0:0");
            due("method k(){} ", 1, "unlink self," + no + ";", "1 6 0:0");
            due("method k(){} ", 1, "link " + no + "," + no + ";", "1 6 0:0");
            due("method k(){} ", 1, twelve + "link o," + no + ";", "1 6 0:0");
        }
        due("add nil,n=1/0;", "1 5 0:0");
        due("link nil,1/0;", "1 5 0:0");
        due("add self,n=nil; answer self.n;", "0 0:0");
    }

    /** The same changes in a METHOD that is begun amid an exp, and in a block. */
    private static void changesWithinExps() {
        String k = "method k(o,p){add o,n=1; give o,m,k; link o,p; unlink o,p; link o,o; drop o,m; set o,n=o.n+5; answer o.n;} ";
        due(k, 1, "give self,k,k; var o=new; answer 100+(200-self.k(o,self)*2);", "0 1:288");
        due(k, 1, "give self,k,k; var o=new; answer 100+(200-[|x| answer self.k(x,new);]!(o)*2)+o.n;", "0 1:294");
        due("method k(o){drop o,n; drop o,m; add o,n=3; answer 1;} ", 1, "give self,k,k; var o=new; add o,n=1; add o,m=2; answer 10-(20-(self.k(o)-o.n));", "0 1:-12");
        due("method k(o){link o,lobby; unlink o,lobby; give o,k,k; answer 1;} ", 1, "give self,k,k; var o=new; answer 10-(20-(self.k(o)-o.k(o)));", "0 1:-10");
        due("method k(o){guard{link o,nil;}on 6 e{} guard{drop o,n;}on 7 f{} guard{give nil,n,k;}on 6 g{} answer 1;} ", 1,
            "give self,k,k; var o=new; answer 10-(20-(self.k(o)-self.k(o)));", "0 1:-10");
        due("method k(o){var c=clone(o); guard{clone(5);}on 6 e{} add c,n=o.n*2; answer c.n-new.n;} ", 1,
            "give self,k,k; var o=new; add o,n=4; answer 10-(20-[guard{answer self.k(o);}on 1 e{answer e;}]!());", "0 1:-9");
    }

    /** A METHOD ends at its end with NIL; a block ends at its end with NIL, by answer within it with its value. */
    private static void endsOfMethodsAndBlocks() {
        due("method k(){1;} ", 1, "give self,k,k; answer self.k==nil;", "0 1:1");
        due("method k(){} ", 1, "give self,k,k; answer self.k;", "0 0:0");
        due("answer []!();", "0 0:0");
        due("answer [5;]!();", "0 0:0");
        due("answer [if 0 {answer 1;}]!();", "0 0:0");
        due("answer [[answer 1;]!(); answer 2;]!();", "0 1:2");
        due("answer [answer [answer 1;]!()+10;]!()+100;", "0 1:111");
        due("method k(){while 1 {while 1 {answer 5;}}} ", 1, "give self,k,k; answer self.k;", "0 1:5");
        due("method k(){if 1 {if 1 {return 5;}} answer 6;} ", 1, "give self,k,k; answer self.k;", "0 1:5");
        // an exp of several ends goes on with each value
        due("method k(n){if n==0 {return 1;} answer n*self.k(n-1);} ", 1, "give self,k,k; answer self.k(10)-self.k(5)*2-[answer 3;]!();", "0 1:3628557");
    }

    /** return in it ends the METHOD of the beginning in which it was made, with all that is under way since; if that has ended, FAILURE 9. */
    private static void returnsFromAfar() {
        String each = "method each(n,f){var i=0; while i<n {0-(1-(2-f!(i))); i=i+1;} fail 50;} ";
        due(each + "method find(n){1+(2-self.each(9,[|i| if i==n {return i*100;} answer 0;]));} ", 2,
            "give self,each,each; give self,find,find; answer 10-(self.find(3)-self.find(2));", "0 1:-90");
        due(each + "method find(n){1+(2-[[[self.each(9,[|i| if i==n {return i*100;} answer 0;]);]!();]!();]!());} ", 2,
            "give self,each,each; give self,find,find; answer 10-(self.find(3)-self.find(2));", "0 1:-90");
        // the nearest beginning of the same METHOD is not meant, but that in which the block was made
        due("method k(n,f){if n==0 {f!();} if n==3 {answer self.k(n-1,[return 7;])+1000;} answer self.k(n-1,f)+10;} ", 1,
            "give self,k,k; answer self.k(5,nil);", "0 1:27");
        due("method make(){answer [return 5;];} ", 1, "give self,make,make; var f=self.make; guard{f!();}on 9 e{write e;} answer 6;", "0 1:6 0:0");
        due("method make(){answer [return 1/0;];} ", 1, "give self,make,make; var f=self.make; f!();", "1 5 0:0");
        due("method make(){answer [answer 5;];} ", 1, "give self,make,make; var f=self.make; answer f!();", "0 1:5");
        due("method make(){answer [answer [return 5;];];} ", 1, "give self,make,make; var f=self.make; var g=f!(); g!();", "1 9 0:0");
        // the METHOD is begun once more, but that beginning is another one
        due("method make(f){if f==nil {answer [return 5;];} f!(); answer 6;} ", 1, "give self,make,make; var f=self.make(nil); self.make(f);", "1 9 0:0");
        DelegationShop shop = Shop.of(0, "method m(a,b){if a {add self,f=[return 8;]; answer self.f!();} self.f!();}");
        Shop.same("in its own run", Shop.outcome(shop, 0, 1, 0), "0 1:8");
        Shop.same("in a later run", Shop.outcome(shop, 0, 0, 0), "1 9 0:0");
        Shop.due("the method in whose text it happens", shop.failure(0, 3) * 100 + shop.failure(0, 4), 32);
    }

    /** However A (or that body) is left, C is done then; behind C what had been going on goes on, unless C is left in another way. */
    private static void guardsInTurn() {
        String k = "method k(){answer 5;} ";
        due(k, 1, "give self,k,k; guard{write self.k; self.k; fail 20,8;} on 20 e{write e;} ensure{write 3;} write 4;", "0 0:0 1:5 1:8 1:3 1:4");
        due(k, 1, "give self,k,k; guard{[write 1;]!(); write self.k;} ensure{[write 2;]!(); self.k; write 3;} answer self.k;", "0 1:5 1:1 1:5 1:2 1:3");
        due("method k(){guard{answer 5;}ensure{write 6;}} ", 1, "give self,k,k; guard{write self.k; write 7;} ensure{write self.k; write 8;} answer 9;",
            "0 1:9 1:6 1:5 1:7 1:6 1:5 1:8");
        // the first such on
        due("guard{fail 30;} on 29 e{write 1;} on 30 f{write 2;} on 30 g{write 3;} on 0 h{write 4;}", "0 0:0 1:2");
        due("guard{fail 30;} on 0 e{write 1;} on 30 f{write 2;}", "0 0:0 1:1");
        for (int kind = 1; kind <= 11; kind++) {
            String[] fails = {"", "self.none;", "[]!(1);", "nil+1;", "a*999999999*999999999*999999999;", "a/0;", "clone(1);", "drop self,n;", "while 1 {new;}",
                "self.old!();", "1!();", "set self,make=1;"};
            String prepare = "give self,make,make; add self,old=self.make; ";
            due("method make(){answer [return 1;];} ", 1, prepare + "guard{" + fails[kind] + " write 99;} on " + kind + " e{write e;} ensure{write 2;} answer 3;",
                "0 1:3 " + (kind == 1 ? "1:3" : "0:0") + " 1:2");
            due("method make(){answer [return 1;];} ", 1, prepare + "guard{" + fails[kind] + "} on " + (kind == 11 ? 12 : kind + 1) + " e{write e;} ensure{write 2;} answer 3;",
                "1 " + kind + " " + (kind == 1 ? "1:3" : "0:0") + " 1:2");
        }
        // a FAILURE in an on's body or in C is none for that guard's on
        due("guard{guard{fail 20,1;} on 0 e{fail 21,2;} on 21 f{write 9;}} on 0 g{write g;}", "0 0:0 1:2");
        due("guard{guard{} on 0 e{write 9;} ensure{fail 22,3;}} on 0 f{write f;}", "0 0:0 1:3");
        due("guard{guard{fail 20,1;} on 21 e{write 9;} on 22 f{write 8;} ensure{fail 22,3;}} on 22 g{write g;}", "0 0:0 1:3");
        // what is going on is kept: a failure, an answer, a return, in each of several ensures
        due("guard{guard{guard{fail 20,1;}ensure{guard{fail 21;}on 21 e{write 2;}}}ensure{[answer 9;]!(); write 3;}}on 20 f{write f;}", "0 0:0 1:2 1:3 1:1");
        due("method k(f){guard{guard{answer 1;}ensure{write 2; guard{fail 21;}on 0 e{write 3;}}}ensure{f!(); write 4;}} ", 1,
            "give self,k,k; answer self.k([answer 7;])+10;", "0 1:11 1:2 1:3 1:4");
        due("method k(f){guard{f!();}ensure{write 1;} write 99;} method j(){self.k([guard{return 6;}ensure{write 2; [answer 8;]!();}]); write 98;} ", 2,
            "give self,k,k; give self,j,j; answer self.j;", "0 1:6 1:2 1:1");
        // C is left by return, answer or a FAILURE: that goes on instead
        due("method k(){guard{return 1;}ensure{return 2;}} ", 1, "give self,k,k; answer self.k;", "0 1:2");
        due("method k(){guard{fail 20;}ensure{return 2;}} ", 1, "give self,k,k; answer self.k;", "0 1:2");
        due("method k(){[guard{return 1;}ensure{answer 2;}]!(); answer 3;} ", 1, "give self,k,k; answer self.k;", "0 1:3");
        due("method k(){guard{return 1;}ensure{fail 23,4;}} ", 1, "give self,k,k; guard{write self.k;}on 23 e{write e;}", "0 0:0 1:4");
        due("method k(){guard{fail 20;}on 20 e{return 1;}ensure{write 2;}} ", 1, "give self,k,k; answer self.k;", "0 1:1 1:2");
        due("method k(){guard{fail 20;}on 20 e{return 1;}ensure{fail 24,5;}} ", 1, "give self,k,k; guard{self.k;}on 24 e{write e;}", "0 0:0 1:5");
        due("while 1 {guard{answer 1;}ensure{write 2;}}", "0 1:1 1:2");
        // not by SPENT, DEPTH
        due("guard{while 1 {}}on 0 e{write 1;}ensure{write 2;}", "2");
        due("guard{fail 20;}on 20 e{while 1 {}}ensure{write 2;}", "2");
        due("method k(){guard{self.k;}on 0 e{write 1;}ensure{write 2;}} ", 1, "give self,k,k; guard{self.k;}ensure{write 3;}", "3");
    }

    /** Guards and what is left behind by failures amid exps are as many as the STEPS allow. */
    private static void manyGuards() {
        due("var i=0; while i<60 {" + "guard{}ensure{}".repeat(30) + " i=i+1;} guard{fail 20,i;}on 20 e{answer e;}ensure{write 1;}", "0 1:60 1:1");
        due("var i=0; while i<60 {" + "guard{}ensure{i;}".repeat(12) + " i=i+1;} guard{fail 20,i;}on 20 e{answer e;}", "0 1:60");
        String pending = "1<2+3*(".repeat(16) + "1/0" + ")".repeat(16);
        due("var i=0; while i<750 {guard{answer " + pending + ";}on 5 e{i=i+1;}} answer i+(1+(2+3*4));", "0 1:765");
        due("var i=0; var f=[answer 0-(" + pending + ");]; while i<550 {guard{1<2+3*f!();}on 5 e{i=i+1;}} answer 100-i*2;", "0 1:-1000");
    }

    /** Its OUTCOME: 0 it answered, 1 a FAILURE left it, 2 SPENT, 3 DEPTH. What was changed stays changed. */
    private static void outcomes() {
        String text = "method down(){self.down;} method m(a,b){add self,n=a; new; [1;]; if b==1 {fail 20;} if b==2 {while 1 {}} if b==3 {give self,down,down; self.down;} answer 9;}";
        for (int b = 0; b <= 3; b++) {
            DelegationShop shop = Shop.of(2, text);
            Shop.due("outcome", shop.run(1, 55, b), b);
            Shop.due("what was changed", shop.held(0, 2, 1), 55);
            Shop.due("objects", shop.count(4), 5);
            Shop.due("blocks", shop.count(6), 1);
            Shop.due("sort of the answer", shop.latest(0), b == 0 ? 1 : 0);
            Shop.due("worth of the answer", shop.latest(1), b == 0 ? 9 : 0);
            Shop.due("left by", shop.latest(3), b == 1 ? 0 : -1);
            Shop.due("failures", shop.latest(4), b == 1 ? 1 : 0);
        }
    }

    /** FAILURES have a KIND (1 .. 11, 20 .. 99), a VALUE (of 1 the number N; of fail its exp, NIL without; else NIL). */
    private static void kindsAndValues() {
        String[] fails = {"self.lost;", "self.other;", "[]!(1);", "nil+1;", "9*999999999*999999999*999999999;", "a/0;", "clone(1);", "drop self,n;",
            "while 1 {new;}", "f!();", "1!();", "give self,t,mk; set self,t=1;", "fail 20;", "fail 99,[];", "fail 55,nil;", "fail 56,lobby;", "fail 57,0-8;"};
        long[][] want = {{1, 1, 0}, {1, 1, 1}, {2, 0, 0}, {3, 0, 0}, {4, 0, 0}, {5, 0, 0}, {6, 0, 0}, {7, 0, 0}, {8, 0, 0}, {9, 0, 0}, {10, 0, 0}, {11, 0, 0},
            {20, 0, 0}, {99, 3, 1}, {55, 0, 0}, {56, 2, 0}, {57, 1, -8}};
        for (int i = 0; i < fails.length; i++) {
            String head = "method mk(){answer [return 1;];} method m(a,b){if b==77 {self.other;} give self,n,mk; var f=self.n; drop self,n; ";
            DelegationShop shop = Shop.of(2, head + fails[i] + "}");
            Shop.due("outcome of " + fails[i], shop.run(1, 1, 2), 1);
            for (int what = 0; what < 3; what++) {
                Shop.due("failure(0, " + what + ") of " + fails[i], shop.failure(0, what), want[i][what]);
            }
            Shop.due("its method", shop.failure(0, 3), fails[i].equals("f!();") ? 0 : 1);
            Shop.due("its cause", shop.failure(0, 5), -1);
        }
    }

    /** The PLACE (of the first byte) of the innermost statement there (while: also when its exp is worked out). */
    private static void placesOfWhile() {
        String[] marked = {"@while a/0 {}", "var i=1; @while 1/i {i=0; 5;}", "var i=1; while 1 {@1/i; i=0;}", "var i=1; @while 1/i {if 1 {i=0;} else {7;}}",
            "@if a/0 {}", "if 1 {@a/0;}", "if 0 {} else {1; @a/0;}", "guard{1; @a/0;}ensure{2;}", "guard{guard{fail 20;}ensure{3; @fail 21;}}on 20 e{}",
            "@[1;]!()+nil;", "[1; @nil+1;]!();", "@self.none([1;]!());", "var f=[1; 2;]; @write 5-f!();", "\n  @1/0;", "var f=[while 1 {@1/0;}]; f!();"};
        for (String m : marked) {
            String text = "method m(a,b){" + m + "}";
            DelegationShop shop = Shop.of(1, text.replace("@", ""));
            Shop.due("outcome of " + m, shop.run(0, 1, 2), 1);
            int f = (int) shop.latest(3);
            Shop.due("place in " + m, shop.failure(f, 4), text.indexOf('@'));
        }
    }

    /** A CAUSE: of all bodies of on under way the one that was begun last has the FAILURE for which it is done as the cause; -1 if there is none. */
    private static void causes() {
        String[][] runs = {{"fail 20;", "-1"}, {"guard{fail 20;}on 20 e{} fail 21;", "-1 -1"}, {"guard{fail 20;}on 20 e{fail 21;}", "-1 0"},
            {"guard{fail 20;}ensure{fail 21;}", "-1 -1"}, {"guard{fail 20;}on 20 e{}ensure{fail 21;}", "-1 -1"},
            {"guard{fail 20;}on 20 e{fail 21;}ensure{fail 22;}", "-1 0 -1"},
            {"guard{fail 20;}on 20 e{guard{fail 21;}ensure{fail 22;}}", "-1 0 0"},
            {"guard{fail 20;}on 20 e{guard{answer 1;}ensure{fail 22;}}", "-1 0"},
            {"guard{fail 20;}on 20 e{guard{fail 21;}on 21 f{fail 22;}}", "-1 0 1"},
            {"guard{fail 20;}on 20 e{guard{fail 21;}on 21 f{} fail 22;}", "-1 0 0"},
            {"guard{fail 20;}on 20 e{guard{guard{fail 21;}on 21 f{fail 22;}}on 22 g{fail 23;}}", "-1 0 1 2"},
            {"guard{fail 20;}on 20 e{self.k;}", "-1 0 1 0"}, {"guard{self.k;}on 26 e{fail 27;}", "-1 0 -1 2"},
            {"guard{guard{fail 20;}on 20 e{[return 1;]!();}ensure{fail 21;}}on 21 f{fail 22;}", "-1 -1 1"},
            {"guard{fail 20;}on 20 e{while 1 {guard{fail 21;}on 21 f{answer 1;}}}", "-1 0"},
            {"var i=0; while i<3 {guard{fail 20;}on 0 c{guard{fail 21;}on 0 d{}} i=i+1;}", "-1 0 -1 2 -1 4"}};
        for (String[] run : runs) {
            DelegationShop shop = Shop.of(0, "method k(){guard{fail 25;}on 25 e{guard{self.none;}on 1 f{}} fail 26;} method m(a,b){give self,k,k;" + run[0] + "}");
            shop.run(1, 1, 2);
            StringBuilder got = new StringBuilder();
            for (int i = 0; i < shop.latest(4); i++) {
                got.append(i == 0 ? "" : " ").append(shop.failure(i, 5));
            }
            Shop.same("causes of " + run[0], got.toString(), run[1]);
        }
    }

    /** They are numbered from 0 on in each RUN; of the first 64 rows are kept. */
    private static void keptFailures() {
        DelegationShop shop = Shop.of(1, "method m(a,b){var i=0; while i<a {guard{fail 20,i;}on 20 e{} i=i+1;} if b {fail 30;}}");
        for (int many = 62; many <= 66; many++) {
            Shop.due("run", shop.run(0, many, 1), 1);
            Shop.due("failures", shop.latest(4), many + 1);
            Shop.due("left by", shop.latest(3), many);
            int kept = Math.min(64, many + 1);
            Shop.due("the last that is kept", shop.failure(kept - 1, 0), kept - 1 == many ? 30 : 20);
            Shop.due("the one before", shop.failure(kept - 2, 2), kept - 2);
            Shop.throwing("failure(" + kept + ")", IndexOutOfBoundsException.class, () -> shop.failure(kept, 0));
        }
        Shop.due("run", shop.run(0, 0, 0), 0);
        Shop.throwing("failure(0)", IndexOutOfBoundsException.class, () -> shop.failure(0, 0));
    }
}
