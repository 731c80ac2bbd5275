/** Promise 7: what runs come to, by section 4 of the document. */
public final class RunTest {
    private static final long MIN = Long.MIN_VALUE;
    private static final long MAX = Long.MAX_VALUE;

    public static void main(String[] args) {
        wrongCalls();
        sums();
        comparisons();
        statements();
        words();
        blocks();
        messages();
        above();
        handlers();
        sets();
        changes();
        guards();
        guardsAndLeaving();
        steps();
        depth();
        full();
        manyCalls();
        runsBehindRuns();
        Shop.finish();
    }

    private static void due(String statements, String want) {
        Shop.same(statements, Shop.doing(statements, 7, 3), want);
    }

    private static void due(String methods, int many, String statements, String want) {
        Shop.same(methods + statements, Shop.doing(methods, many, statements, 7, 3), want);
    }

    private static void sum(String exp, long a, long b, String want) {
        Shop.same(exp + " of " + a + ", " + b, Shop.doing("answer " + exp + ";", a, b), want);
    }

    private static void wrongCalls() {
        DelegationShop shop = new DelegationShop();
        Shop.throwing("run without a text", IllegalStateException.class, () -> shop.run(0, 1, 2));
        Shop.throwing("run(-1) without a text", IllegalStateException.class, () -> shop.run(-1, 1, 2));
        Shop.load(shop, "method none(){} method one(a){} method two(a,b){answer 5;} method three(a,b,c){}");
        for (int m : new int[] {-1, 0, 1, 3, 4, Integer.MIN_VALUE, Integer.MAX_VALUE}) {
            Shop.throwing("run(" + m + ")", IllegalArgumentException.class, () -> shop.run(m, 1, 2));
        }
        Shop.due("nothing was run", shop.latest(6), 0);
        Shop.due("run(2)", shop.run(2, 1, 2), 0);
        Shop.throwing("run(1)", IllegalArgumentException.class, () -> shop.run(1, 1, 2));
        Shop.due("the latest run stays", shop.latest(1), 5);
    }

    private static void sums() {
        sum("a+b", 7, 3, "0 1:10");
        sum("a-b-1", 7, 3, "0 1:3");
        sum("a-(b-1)", 7, 3, "0 1:5");
        sum("a+b*2", 7, 3, "0 1:13");
        sum("(a+b)*2", 7, 3, "0 1:20");
        sum("-a*b", 7, 3, "0 1:-21");
        sum("a--b", 7, 3, "0 1:10");
        sum("- - -a", 7, 3, "0 1:-7");
        sum("a/b", -7, 3, "0 1:-2");
        sum("a/b", 7, -3, "0 1:-2");
        sum("a%b", -7, 3, "0 1:-1");
        sum("a%b", 7, -3, "0 1:1");
        sum("100/7/2", 0, 0, "0 1:7");
        sum("100-7*3%5", 0, 0, "0 1:99");
        sum("a+b", MAX, 1, "1 4 0:0");
        sum("a+b", MAX, MIN, "0 1:-1");
        sum("a+b", MIN, -1, "1 4 0:0");
        sum("a-b", MIN, 1, "1 4 0:0");
        sum("a-b", 0, MIN, "1 4 0:0");
        sum("a-b", -1, MIN, "0 1:" + MAX);
        sum("a*b", MIN, -1, "1 4 0:0");
        sum("a*b", -1, MIN, "1 4 0:0");
        sum("a*b", MIN, 1, "0 1:" + MIN);
        sum("a*b", MIN, 0, "0 1:0");
        sum("a*b", 3037000500L, 3037000500L, "1 4 0:0");
        sum("a*b", 3037000499L, 3037000499L, "0 1:9223372030926249001");
        sum("a*b", 4294967296L, -2147483648L, "0 1:" + MIN);
        sum("a*b", 4294967296L, 2147483648L, "1 4 0:0");
        sum("a/b", MIN, -1, "1 4 0:0");
        sum("a/b", MIN, 1, "0 1:" + MIN);
        sum("a%b", MIN, -1, "0 1:0");
        sum("a%b", 5, -1, "0 1:0");
        sum("a/b", 1, 0, "1 5 0:0");
        sum("a%b", MIN, 0, "1 5 0:0");
        sum("-a", MIN, 0, "1 4 0:0");
        sum("-a", MAX, 0, "0 1:" + -MAX);
        for (String sign : new String[] {"+", "-", "*", "/", "%", "<", ">"}) {
            sum("a" + sign + "nil", 1, 0, "1 3 0:0");
            sum("lobby" + sign + "b", 1, 0, "1 3 0:0");
            sum("[]" + sign + "[]", 1, 0, "1 3 0:0");
        }
        sum("-nil", 1, 0, "1 3 0:0");
        sum("-lobby", 1, 0, "1 3 0:0");
        sum("nil/0", 1, 0, "1 3 0:0");
        due("write a; answer (nil+1)+(1/0);", "1 3 0:0 1:7");
    }

    private static void comparisons() {
        sum("a<b", 3, 7, "0 1:1");
        sum("a<b", 7, 7, "0 1:0");
        sum("a>b", 7, 3, "0 1:1");
        sum("a>b", MIN, MAX, "0 1:0");
        sum("a==b", 7, 7, "0 1:1");
        sum("a==b", 7, 8, "0 1:0");
        sum("a+1==b*2", 7, 4, "0 1:1");
        sum("nil==nil", 0, 0, "0 1:1");
        sum("nil==0", 0, 0, "0 1:0");
        sum("lobby==0", 0, 0, "0 1:0");
        sum("lobby==self", 0, 0, "0 1:1");
        sum("new==new", 0, 0, "0 1:0");
        sum("[]==[]", 0, 0, "0 1:0");
        sum("(lobby==4)+(nil==lobby)", 0, 0, "0 1:0");
    }

    private static void statements() {
        due("", "0 0:0");
        due("1;", "0 0:0");
        due("answer nil;", "0 0:0");
        due("return new;", "0 2:4");
        due("answer lobby; write 1;", "0 2:0");
        due("answer [];", "0 3:0");
        due("write a; write nil; write lobby; write []; write [];", "0 0:0 1:7 0:0 2:0 3:0 3:1");
        due("if a {write 1;} else {write 2;} if a-7 {write 3;} else {write 4;}", "0 0:0 1:1 1:4");
        due("if nil {write 1;} if lobby {write 2;} if [] {write 3;} if -1 {write 4;} if 0 {write 5;}", "0 0:0 1:2 1:3 1:4");
        due("while a {write a; a=a-2; if a<2 {answer a;}}", "0 1:1 1:7 1:5 1:3");
        due("while nil {write 1;} answer 2;", "0 1:2");
        due("var i=0; while i<3 {var j=0; while j<2 {write i*10+j; j=j+1;} i=i+1;}", "0 0:0 1:0 1:1 1:10 1:11 1:20 1:21");
        due("fail 20;", "1 20 0:0");
        due("fail 99,a+1;", "1 99 1:8");
        due("fail 30,new;", "1 30 2:4");
        due("fail 30,1/0;", "1 5 0:0");
        due("new; answer new;", "0 2:5");
        due("answer clone(lobby);", "0 2:4");
        due("clone(1);", "1 6 0:0");
        due("clone(nil);", "1 6 0:0");
        due("clone([]);", "1 6 0:0");
    }

    private static void words() {
        due("var x=a; x=x+1; a=x; answer a;", "0 1:8");
        due("if 0 {var x=1;} answer x;", "0 0:0");
        due("var i=0; while i<2 {if i==1 {write i;} var x=5; i=i+1;}", "0 0:0 1:1");
        due("var f=[|x| var y=x; if x {y=y+1;} answer y;]; write f!(1); write f!(0); write f!(nil);", "0 0:0 1:2 1:0 0:0");
        due("var f=[|x| if x {var y=5;} answer 1;]; f!(1); var g=[var z=1;]; answer g!();", "0 0:0");
        due("method two(n){if n {var x=9; answer x;} answer x;} ", 1,
            "give lobby,two,two; write self.two(1); write self.two(0); write self.two(2); write self.two(0)==nil;", "0 0:0 1:9 0:0 1:9 1:1");
    }

    private static void blocks() {
        due("var s=1; var f=[|x| s=s+x; answer s;]; write f!(2); write f!(10); answer s;", "0 1:13 1:3 1:13");
        due("var f=[|x,y| answer x-y;]; answer f!(a,b);", "0 1:4");
        due("answer [answer 3;]!();", "0 1:3");
        due("answer [3;]!();", "0 0:0");
        due("answer []!();", "0 0:0");
        due("[return 5;]!(); answer 6;", "0 1:5");
        due("[[return 5;]!(); write 1;]!(); write 2;", "0 1:5");
        due("answer [[answer 5;]!(); answer 6;]!();", "0 1:6");
        due("5!();", "1 10 0:0");
        due("nil!(1);", "1 10 0:0");
        due("lobby!();", "1 10 0:0");
        due("[]!(1);", "1 2 0:0");
        due("[|x|]!();", "1 2 0:0");
        due("[|x|]!(1,2);", "1 2 0:0");
        due("5!(1/0);", "1 5 0:0");
        // each beginning has words of its own
        due("var f=[|x| answer [x=x+1; answer x;];]; var g=f!(10); var h=f!(20); write g!(); write g!(); write h!(); write g!();",
            "0 0:0 1:11 1:12 1:21 1:13");
        due("var x=1; var f=[var x=2; answer [x=x*2; answer x;];]; var g=f!(); write g!(); write g!(); answer x;", "0 1:1 1:4 1:8");
        due("method k(){answer [|n| if n<1 {answer 0;} answer self;];} ", 1,
            "var o=new; give o,k,k; var f=o.k; write f!(0); answer f!(1);", "0 2:4 1:0");
        due("method make(){answer [return 4;];} ", 1, "give lobby,make,make; var f=self.make; f!();", "1 9 0:0");
        due("method make(){answer [return 1/0;];} ", 1, "give lobby,make,make; var f=self.make; f!();", "1 5 0:0");
        due("method each(n,f){var i=0; while i<n {f!(i); i=i+1;} write 77; answer n;} method find(n){self.each(n,[|i| if i==3 {return i*100;}]); answer 1;} ",
            2, "give lobby,each,each; give lobby,find,find; write self.find(9); answer self.find(2);", "0 1:1 1:300 1:77");
        // a block sees the latest of the words of its own beginning, also behind its end
        due("method make(n){var v=n; var f=[v=v+1; answer v;]; v=v*10; answer f;} ", 1,
            "give lobby,make,make; var f=self.make(1); var g=self.make(2); write f!(); write g!(); write f!();", "0 0:0 1:11 1:21 1:12");
    }

    private static void messages() {
        due("add lobby,n=5; answer self.n+lobby.n;", "0 1:10");
        due("add lobby,n=5; self.n(1);", "1 2 0:0");
        due("add lobby,n=5; answer self.n();", "0 1:5");
        due("self.n;", "1 1 1:1");
        due("lobby.q; lobby.n;", "1 1 1:1");
        due("guard {lobby.q;} on 1 e {write e;} lobby.n(1,2);", "1 1 1:2 1:1");
        due("method k(x){answer x;} ", 1, "give lobby,k,k; lobby.k;", "1 2 0:0");
        due("method k(x){answer x;} ", 1, "give lobby,k,k; lobby.k(1,2);", "1 2 0:0");
        due("method k(){answer self;} ", 1, "give lobby,k,k; var o=new; link o,lobby; write o.k; var p=new; link p,o; write p.k();",
            "0 0:0 2:4 2:5");
        due("var o=new; var p=new; link p,o; add o,n=1; write p.n; add p,n=2; write p.n; write o.n; drop p,n; write p.n;",
            "0 0:0 1:1 1:2 1:1 1:1");
        due("var o=new; link o,o; add o,n=3; answer o.n;", "0 1:3");
        due("var o=new; var p=new; link o,p; link p,o; o.n;", "1 1 1:1");
        numbersStandForObjects();
    }

    private static void numbersStandForObjects() {
        DelegationShop shop = Shop.of(2, "method me(){answer self;} method go(a,b){write 5.me; write [].me; write nil.me; write a.n; answer nil.n;}");
        for (int o = 1; o <= 3; o++) {
            shop.change(o, 1, 1, 0);
            shop.change(o, 0, 2, o * 11);
        }
        Shop.same("numbers, blocks, NIL", Shop.outcome(shop, 1, 7, 3) + Shop.writtenOf(shop), "0 1:33 1:5 3:0 0:0 1:11");
        Shop.due("the slot of object 2", shop.held(2, 2, 1), 22);
        Shop.due("a number's self", shop.begun(1, 1), 1);
        Shop.due("a number's self", shop.begun(1, 2), 5);
    }

    private static void above() {
        String up = "method one(){answer 1;} method two(){answer above.n+10;} method three(){answer above.n+100;} ";
        due(up, 3, "var x=new; var y=new; var z=new; give x,n,one; give y,n,two; give z,n,three; link y,x; link z,y; answer z.n;", "0 1:111");
        // the way of z is y, x: two is found with holder y and goes on behind y
        due(up, 3, "var x=new; var y=new; var z=new; give x,n,one; give y,n,two; link z,y; link z,x; write z.n; unlink z,x; z.n;",
            "1 1 1:1 1:11");
        due(up, 3, "above.n;", "1 1 1:1");
        due(up, 3, "var x=new; give x,n,one; link lobby,x; give lobby,n,two; write above.n; answer self.n;", "0 1:11 1:1");
        // in a block it is the method's self and place
        due("method one(x){answer x;} method two(x){var f=[|y| answer above.n(y+1);]; answer f!(x)*2;} ", 2,
            "var o=new; var p=new; give o,n,one; link p,o; give p,n,two; answer p.n(4);", "0 1:10");
        due("method one(x){answer x;} method two(){answer above.n(1,2);} ", 2,
            "var o=new; var p=new; give o,n,one; link p,o; give p,n,two; answer p.n;", "1 2 0:0");
        // the holder is no more in the way: nowhere
        due("method one(){answer 1;} method two(){unlink self,lobby; answer above.n;} ", 2,
            "var o=new; var x=new; give x,n,one; link lobby,x; give lobby,n,two; link o,lobby; o.n;", "1 1 1:1");
    }

    private static void handlers() {
        String lost = "method lost(n,k){write n; write k; answer self;} ";
        due(lost, 1, "give lobby,lost,lost; write lobby.foo(1,2,3); answer lobby.bar;", "0 2:0 1:1 1:3 2:0 1:2 1:0");
        due(lost, 1, "var o=new; give lobby,lost,lost; link o,lobby; answer o.n;", "0 2:4 1:1 1:0");
        due(lost, 1, "add lobby,lost=5; lobby.n;", "1 1 1:1");
        due("method lost(n){answer n;} ", 1, "give lobby,lost,lost; lobby.n;", "1 1 1:1");
        due("method lost(n,k){self.other;} ", 1, "give lobby,lost,lost; lobby.n;", "1 1 1:1");
        due("method lost(n,k){answer self.ok;} ", 1, "give lobby,lost,lost; add lobby,ok=5; answer lobby.n;", "0 1:5");
        due("method lost(n,k){answer n+k;} ", 1, "give lobby,lost,lost; write lobby.n; write lobby.p(1); answer above.q(1,1);",
            "0 1:5 1:1 1:3");
        due(lost, 1, "give lobby,lost,lost; set lobby,n=1;", "1 1 1:1");
        due(lost, 1, "give lobby,lost,lost; answer lobby.lost(5,6);", "0 2:0 1:5 1:6");
        due("method lost(n,k){answer above.n;} ", 1, "var o=new; var p=new; var q=new; link o,p; link p,q; link o,q; add o,n=1; add p,n=2; add q,n=3;"
            + " give p,lost,lost; write o.x; give o,lost,lost; write o.x; drop p,n; write o.y(1);", "0 0:0 1:3 1:2 1:3");
        // one that was begun by its own name is no handler
        due("method lost(n,k){if n {answer self.foo;} answer 9;} ", 1, "give lobby,lost,lost; self.lost(1,1);", "1 1 1:1");
        due("method lost(n,k){if k {answer self.foo;} answer n;} ", 1, "give lobby,lost,lost; write self.lost(0,1); self.bar(1);",
            "1 1 1:1 1:1");
    }

    private static void sets() {
        due("add lobby,n=1; set lobby,n=self.n+4; answer lobby.n;", "0 1:5");
        due("var o=new; link o,lobby; add lobby,n=1; set o,n=2; write lobby.n; add o,n=3; set o,n=4; write lobby.n; answer o.n;",
            "0 1:4 1:2 1:2");
        due("set lobby,n=1;", "1 1 1:1");
        due("method k(){} ", 1, "give lobby,n,k; set lobby,n=1;", "1 11 0:0");
        due("set lobby,n=1/0;", "1 5 0:0");
        due("add lobby,n=1; set lobby,n=lobby; answer lobby.n;", "0 2:0");
    }

    private static void changes() {
        due("add lobby,n=1; add lobby,n=2; answer lobby.n;", "0 1:2");
        due("method k(){answer 4;} method j(){answer 5;} ", 2, "give lobby,n,k; give lobby,n,j; answer lobby.n;", "0 1:5");
        due("method k(){} ", 1, "give lobby,n,k; add lobby,n=1;", "1 7 0:0");
        due("method k(){} ", 1, "add lobby,n=1; give lobby,n,k;", "1 7 0:0");
        due("drop lobby,n;", "1 7 0:0");
        due("add lobby,n=1; drop lobby,n; lobby.n;", "1 1 1:1");
        due("link lobby,lobby; link lobby,lobby;", "1 7 0:0");
        due("unlink lobby,lobby;", "1 7 0:0");
        due("link lobby,lobby; unlink lobby,lobby; unlink lobby,lobby;", "1 7 0:0");
        for (String no : new String[] {"1", "nil", "[]"}) {
            due("add " + no + ",n=1;", "1 6 0:0");
            due("give " + no + ",n,go;", "1 6 0:0");
            due("drop " + no + ",n;", "1 6 0:0");
            due("link " + no + ",lobby;", "1 6 0:0");
            due("link lobby," + no + ";", "1 6 0:0");
            due("unlink lobby," + no + ";", "1 6 0:0");
        }
        due("add 1,n=1/0;", "1 5 0:0");
        due("add lobby,x=1; add lobby,y=2; add lobby,z=3; drop lobby,x; write lobby.y; write lobby.z; add lobby,x=4; write lobby.x;",
            "0 0:0 1:2 1:3 1:4");
        due("add lobby,x=1; var o=clone(lobby); set o,x=2; write lobby.x; write o.x; drop o,x; write lobby.x;", "0 0:0 1:1 1:2 1:1");
    }

    private static void guards() {
        due("guard {write 1;} on 0 e {write 2;} write 3;", "0 0:0 1:1 1:3");
        due("guard {fail 20,5; write 1;} on 20 e {write e;} write 3;", "0 0:0 1:5 1:3");
        due("guard {fail 20,5;} on 21 e {write 1;} on 20 f {write 2; write f;} on 0 g {write 3;}", "0 0:0 1:2 1:5");
        due("guard {fail 20,5;} on 0 e {write 1;} on 20 f {write 2;}", "0 0:0 1:1");
        due("guard {fail 20,5;} on 21 e {write 1;}", "1 20 1:5");
        due("guard {1/0;} on 5 e {write e;}", "0 0:0 0:0");
        due("guard {lobby.n;} on 1 e {answer e;}", "0 1:1");
        due("guard {fail 20,1;} on 20 e {fail 20,2;} on 0 f {write 9;}", "1 20 1:2");
        due("guard {guard {fail 20,1;} on 20 e {fail 20,2;}} on 0 f {write f;}", "0 0:0 1:2");
        due("guard {guard {fail 20,1;} on 21 e {write 1;}} on 20 f {write f;}", "0 0:0 1:1");
        due("guard {write 1;} ensure {write 2;} write 3;", "0 0:0 1:1 1:2 1:3");
        due("guard {fail 20,1;} ensure {write 2;} write 3;", "1 20 1:1 1:2");
        due("guard {fail 20,1;} on 20 e {write e;} ensure {write 2;} write 3;", "0 0:0 1:1 1:2 1:3");
        due("guard {fail 20,1;} on 20 e {fail 21,2;} ensure {write 3;} write 4;", "1 21 1:2 1:3");
        due("guard {fail 20,1;} ensure {fail 21,2;}", "1 21 1:2");
        due("guard {guard {fail 20,1;} ensure {write 1;}} on 20 e {write 2;} ensure {write 3;}", "0 0:0 1:1 1:2 1:3");
        due("guard {} ensure {fail 22;} write 1;", "1 22 0:0");
        due("guard {fail 20;} on 20 e {} ensure {fail 22;} write 1;", "1 22 0:0");
        due("guard {guard {} ensure {fail 22,3;}} on 22 e {write e;}", "0 0:0 1:3");
        due("guard {fail 20;} on 20 e {write e;} write e;", "0 0:0 0:0 0:0");
        due("method bad(){fail 40,6;} ", 1, "give lobby,bad,bad; guard {write 1+self.bad;} on 40 e {write e;} answer 2+3;", "0 1:5 1:6");
        // what was half worked out is gone
        due("var f=[|x| guard {fail 33,x;} on 33 e {answer e*2;}]; answer 1+f!(4)*f!(5);", "0 1:81");
    }

    private static void guardsAndLeaving() {
        due("guard {answer 1;} ensure {write 2;} answer 3;", "0 1:1 1:2");
        due("guard {return 1;} ensure {answer 2;} answer 3;", "0 1:2");
        due("guard {fail 20;} ensure {answer 2;}", "0 1:2");
        due("guard {answer 1;} ensure {fail 20;}", "1 20 0:0");
        due("guard {guard {answer 1;} ensure {fail 20;}} on 20 e {write 5;} answer 6;", "0 1:6 1:5");
        due("guard {fail 20;} on 20 e {answer 1;} ensure {write 2;} answer 3;", "0 1:1 1:2");
        due("guard {guard {answer 1;} ensure {write 2;}} ensure {write 3;}", "0 1:1 1:2 1:3");
        due("[guard {return 1;} ensure {write 2;}]!(); answer 3;", "0 1:1 1:2");
        due("[guard {answer 1;} ensure {write 2;}]!(); answer 3;", "0 1:3 1:2");
        due("answer [guard {return 1;} ensure {answer 2;}]!()+5;", "0 1:7");
        due("method run(f){guard {f!();} ensure {write 8;} answer 2;} ", 1,
            "give lobby,run,run; guard {self.run([return 1;]);} ensure {write 9;} answer 3;", "0 1:1 1:8 1:9");
        due("method run(f){guard {f!();} ensure {answer 5;}} ", 1, "give lobby,run,run; write self.run([return 1;]); answer 3;", "0 1:3 1:5");
        due("var i=0; while i<3 {guard {i=i+1; if i==2 {fail 50;} write i;} on 50 e {write 100;} ensure {write -i;}}",
            "0 0:0 1:1 1:-1 1:100 1:-2 1:3 1:-3");
        // the way out of a spent run or too deep a one passes no ensure
        due("guard {while 1 {}} on 0 e {write 1;} ensure {write 2;}", "2");
        due("method deep(){guard {self.deep;} on 0 e {write 1;} ensure {write 2;}} ", 1, "give lobby,deep,deep; self.deep;", "3");
        due("guard {fail 20;} ensure {while 1 {}}", "2");
    }

    private static void steps() {
        String[][] runs = {{"", "0"}, {"1;", "1"}, {"var x=1; x=2;", "2"}, {"if 1 {2;} else {3; 4;}", "2"}, {"while 0 {1;}", "1"},
            {"var i=0; while i<3 {i=i+1;}", "8"}, {"add lobby,n=1; lobby.n; set lobby,n=lobby.n;", "6"}, {"[1;]!();", "3"},
            {"guard {lobby.n;} on 1 e {1;} ensure {2; 3;}", "6"}, {"above.n;", "2"}, {"5!();", "2"}, {"lobby.n(1/0);", "1"},
            {"set lobby,n=1/0;", "1"}, {"fail 20;", "1"}, {"answer 1; 2; 3;", "1"}};
        for (String[] run : runs) {
            DelegationShop shop = Shop.of(1, "method go(a,b){" + run[0] + "}");
            shop.run(0, 1, 2);
            Shop.same("steps of " + run[0], Long.toString(shop.latest(2)), run[1]);
        }
        // a while takes one by its statement, and two by each turn with one statement in it
        for (int turns = 1997; turns <= 2001; turns++) {
            DelegationShop shop = Shop.of(2, "method go(a,b){while b<a {b=b+1;} write b; answer b;}");
            boolean fits = 1 + 2 * turns + 2 <= 4000;
            Shop.due("outcome of " + turns, shop.run(0, turns, 0), fits ? 0 : 2);
            Shop.due("steps of " + turns, shop.latest(2), fits ? 3 + 2 * turns : 4000);
            Shop.due("written of " + turns, shop.latest(5), 2 + 2 * turns <= 4000 ? 1 : 0);
            Shop.due("answer of " + turns, shop.latest(1), fits ? turns : 0);
            Shop.due("failures of " + turns, shop.latest(4), 0);
        }
        DelegationShop shop = Shop.of(2, "method go(a,b){if b {1;} add lobby,n=0; while 1 {set lobby,n=lobby.n+1;}}");
        // each turn: the statement, the message, the set, and the step of while
        Shop.due("spent", shop.run(0, 0, 0), 2);
        Shop.due("what was changed stays", shop.held(0, 1, 1), 999);
        Shop.due("behind a spent run", shop.run(0, 0, 1), 2);
        Shop.due("the last set was not done", shop.held(0, 1, 1), 999);
    }

    private static void depth() {
        String down = "method down(n){if n {answer self.down(n-1);} answer 5;} ";
        due(down, 1, "give lobby,down,down; answer self.down(58);", "0 1:5");
        due(down, 1, "give lobby,down,down; self.down(59);", "3");
        due("var f=nil; f=[|n| if n {answer f!(n-1);} answer 6;]; answer f!(58);", "0 1:6");
        due("var f=nil; f=[|n| if n {answer f!(n-1);} answer 6;]; f!(59);", "3");
        due("method lost(n,k){write n; answer 1;} method down(n){if n {answer self.down(n-1);} answer self.nope;} ", 2,
            "give lobby,lost,lost; give lobby,down,down; self.down(57); write 7; self.down(58);", "3 1:2 1:7");
        // what cannot begin for another reason fails before
        due("method down(n){if n {answer self.down(n-1);} answer self.down;} ", 1, "give lobby,down,down; self.down(58);", "1 2 0:0");
        due("var f=nil; f=[|n| if n {answer f!(n-1);} answer f!();]; f!(58);", "1 2 0:0");
        DelegationShop shop = Shop.of(2, down + "method go(a,b){give lobby,down,down; self.down(a);}");
        Shop.due("too deep", shop.run(1, 99, 0), 3);
        Shop.due("and again", shop.run(1, 58, 0), 0);
        Shop.due("begun", shop.latest(6), 60);
    }

    private static void full() {
        due("var i=0; while i<196 {new; i=i+1;} write i; new;", "1 8 0:0 1:196");
        due("var i=0; while i<196 {clone(lobby); i=i+1;} guard {clone(1);} on 6 e {write 6;} clone(lobby);", "1 8 0:0 1:6");
        due("var i=0; while i<500 {[]; i=i+1;} write i; [];", "1 8 0:0 1:500");
        due("var o=new; while a<400 {o=clone(o); link o,o;} ",
            "1 8 0:0");
        StringBuilder twelve = new StringBuilder();
        for (int i = 0; i < 12; i++) {
            twelve.append("add lobby,n").append((char) ('a' + i)).append("=").append(i).append(";");
        }
        due(twelve + "add lobby,na=5; write lobby.na; add lobby,x=1;", "1 8 0:0 1:5");
        due(twelve + "link lobby,lobby;", "1 8 0:0");
        due(twelve + "give lobby,x,go;", "1 8 0:0");
        due(twelve + "give lobby,na,go;", "1 7 0:0");
        due(twelve + "drop lobby,na; add lobby,x=1; write lobby.nl; write lobby.x;", "0 0:0 1:11 1:1");
    }

    private static void manyCalls() {
        DelegationShop shop = Shop.of(2, "method k(n){answer n;} method m(a,b){give lobby,k,k; var i=0; while i<a {b=b+self.k(i); i=i+1;} answer b;}"
            + "method f(a,b){var f=[|x| answer x;]; var i=0; while i<a {b=b+f!(i); i=i+1;} answer b;}");
        for (int n = 0; n < 4; n++) {
            Shop.same("many calls of a method", Shop.outcome(shop, 1, 700, 0), "0 1:" + 700 * 699 / 2);
            Shop.due("begun", shop.latest(6), 701);
            Shop.same("many calls of a block", Shop.outcome(shop, 2, 700, 0), "0 1:" + 700 * 699 / 2);
        }
        Shop.due("calls", shop.calls(0), 2800);
    }

    /** Nothing of a run that was left in the midst of its exps and guards is in the way of the next. */
    private static void runsBehindRuns() {
        String deep = "1+(".repeat(15) + "self.down(n-1)" + ")".repeat(15);
        DelegationShop shop = Shop.of(1, "method down(n){if n==0 {fail 20;} if n==100 {while 1 {}} if n<0 {answer 0;} guard{answer " + deep
            + ";} on 21 e {write e;} on 0 f {fail 20,f;} ensure {f=1;}} method m(a,b){give lobby,down,down; answer self.down(a);}"
            + " method plain(n){if n==200 {answer 5;} answer " + deep.replace("down", "plain") + ";} method p(a,b){give lobby,plain,plain; answer self.plain(a);}");
        for (int n = 0; n < 20; n++) {
            Shop.same("a failure in the midst", Shop.outcome(shop, 1, 57, 0), "1 20 0:0");
            Shop.same("too deep in the midst", Shop.outcome(shop, 1, 170, 0), "3");
            Shop.same("spent in the midst", Shop.outcome(shop, 1, 130, 0), "2");
            Shop.same("a sum that is too deep", Shop.outcome(shop, 3, 50, 0), "3");
            Shop.same("a sum", Shop.outcome(shop, 3, 250, 0), "0 1:755");
        }
        DelegationShop guarded = Shop.of(2, "method m(a,b){guard{while a {}} on 0 e{write 1;} ensure{write 2;}} method k(a,b){fail 33;} method p(a,b){guard{self.m(1,2);}on 0 e{} give lobby,m,m; self.m(1,2);}");
        Shop.same("spent in a guard", Shop.outcome(guarded, 0, 1, 0), "2");
        Shop.same("a failure behind it", Shop.outcome(guarded, 1, 1, 0), "1 33 0:0");
        Shop.same("a guard behind it", Shop.outcome(guarded, 0, 0, 0) + Shop.writtenOf(guarded), "0 0:0 1:2");
        Shop.same("spent in a guard of a call", Shop.outcome(guarded, 2, 1, 0), "2");
        Shop.same("a failure behind it", Shop.outcome(guarded, 1, 1, 0), "1 33 0:0");
    }
}
