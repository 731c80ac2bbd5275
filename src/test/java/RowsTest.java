/** Promises 8 to 12: what is told of the latest run, and calls. */
public final class RowsTest {
    public static void main(String[] args) {
        withoutText();
        withoutRun();
        sums();
        writtenRows();
        begunRows();
        failureRows();
        causes();
        placesOfFailures();
        keptRows();
        callsSinceLoad();
        Shop.finish();
    }

    private static void withoutText() {
        DelegationShop shop = new DelegationShop();
        for (int n = -1; n <= 1; n++) {
            int i = n;
            Shop.throwing("latest", IllegalStateException.class, () -> shop.latest(i));
            Shop.throwing("written", IllegalStateException.class, () -> shop.written(i, i));
            Shop.throwing("begun", IllegalStateException.class, () -> shop.begun(i, i));
            Shop.throwing("failure", IllegalStateException.class, () -> shop.failure(i, i));
            Shop.throwing("calls", IllegalStateException.class, () -> shop.calls(i));
        }
    }

    private static void withoutRun() {
        DelegationShop shop = Shop.of(0, "method m(a,b){}");
        for (int what = 0; what <= 6; what++) {
            Shop.due("latest(" + what + ")", shop.latest(what), what == 3 ? -1 : 0);
        }
        Shop.throwing("written", IndexOutOfBoundsException.class, () -> shop.written(0, 0));
        Shop.throwing("begun", IndexOutOfBoundsException.class, () -> shop.begun(0, 0));
        Shop.throwing("failure", IndexOutOfBoundsException.class, () -> shop.failure(0, 9));
    }

    private static DelegationShop shop() {
        return Shop.of(2, "method k(){fail 20,lobby;} method m(a,b){give lobby,k,k; write a; write nil; write new;\n"
            + "guard{self.k;}on 20 e{write e; 1/0;}} method n(a,b){answer [];} method o(a,b){while 1{}}");
    }

    private static void row(String call, long[] want, java.util.function.LongUnaryOperator got) {
        for (int what = 0; what < want.length; what++) {
            Shop.due(call + ", " + what, got.applyAsLong(what), want[what]);
        }
        for (int what : new int[] {-1, want.length, Integer.MIN_VALUE, Integer.MAX_VALUE}) {
            Shop.throwing(call + ", " + what, IllegalArgumentException.class, () -> got.applyAsLong(what));
        }
    }

    private static void sums() {
        DelegationShop shop = shop();
        Shop.due("run", shop.run(1, 5, 6), 1);
        row("latest", new long[] {0, 0, 10, 1, 2, 4, 2}, what -> shop.latest((int) what));
        Shop.due("run", shop.run(2, 5, 6), 0);
        row("latest", new long[] {3, 0, 1, -1, 0, 0, 1}, what -> shop.latest((int) what));
        Shop.due("run", shop.run(3, 5, 6), 2);
        row("latest", new long[] {0, 0, 4000, -1, 0, 0, 1}, what -> shop.latest((int) what));
    }

    private static void writtenRows() {
        DelegationShop shop = shop();
        shop.run(1, 5, 6);
        row("written(0)", new long[] {1, 5}, what -> shop.written(0, (int) what));
        row("written(1)", new long[] {0, 0}, what -> shop.written(1, (int) what));
        row("written(2)", new long[] {2, 4}, what -> shop.written(2, (int) what));
        row("written(3)", new long[] {2, 0}, what -> shop.written(3, (int) what));
        for (int i : new int[] {-1, 4, Integer.MIN_VALUE, Integer.MAX_VALUE}) {
            Shop.throwing("written(" + i + ")", IndexOutOfBoundsException.class, () -> shop.written(i, 7));
        }
        shop.run(2, 0, 0);
        Shop.throwing("written of another run", IndexOutOfBoundsException.class, () -> shop.written(0, 0));
    }

    private static void begunRows() {
        DelegationShop shop = Shop.of(1, "method k(x){[answer 1;]!(); answer self;} method lost(n,k){answer n;}"
            + "method m(a,b){give lobby,k,k; give lobby,lost,lost; var o=new; var p=new; link o,p; link p,lobby; o.k(1); lobby.k(2); o.x;}");
        Shop.due("run", shop.run(2, 5, 6), 0);
        Shop.due("begun", shop.latest(6), 4);
        row("begun(0)", new long[] {2, 2, 0, 0}, what -> shop.begun(0, (int) what));
        row("begun(1)", new long[] {0, 2, 4, 2}, what -> shop.begun(1, (int) what));
        row("begun(2)", new long[] {0, 2, 0, 0}, what -> shop.begun(2, (int) what));
        row("begun(3)", new long[] {1, 2, 4, 2}, what -> shop.begun(3, (int) what));
        Shop.due("run", shop.run(2, 5, 6), 0);
        row("begun(0) of another run", new long[] {2, 2, 0, 0}, what -> shop.begun(0, (int) what));
        for (int i : new int[] {-1, 4, Integer.MIN_VALUE, Integer.MAX_VALUE}) {
            Shop.throwing("begun(" + i + ")", IndexOutOfBoundsException.class, () -> shop.begun(i, 9));
        }
        DelegationShop numbers = Shop.of(1, "method k(){answer self;} method m(a,b){a.n; nil.n; [].n;}");
        for (int o = 1; o <= 3; o++) {
            numbers.change(o, 3, 0, 0);
        }
        numbers.change(0, 1, 1, 0);
        numbers.run(1, -9, 0);
        row("begun by a number", new long[] {0, 1, -9, 1}, what -> numbers.begun(1, (int) what));
        row("begun by NIL", new long[] {0, 0, 0, 1}, what -> numbers.begun(2, (int) what));
        row("begun by a block", new long[] {0, 3, 0, 1}, what -> numbers.begun(3, (int) what));
    }

    private static void failureRows() {
        DelegationShop shop = shop();
        shop.run(1, 5, 6);
        // the method k fails at its first statement, behind "method k(){"
        row("failure(0)", new long[] {20, 2, 0, 0, 11, -1}, what -> shop.failure(0, (int) what));
        String text = "method k(){fail 20,lobby;} method m(a,b){give lobby,k,k; write a; write nil; write new;\nguard{self.k;}on 20 e{write e; 1/0;}}";
        row("failure(1)", new long[] {5, 0, 0, 1, text.indexOf("1/0"), 0}, what -> shop.failure(1, (int) what));
        for (int i : new int[] {-1, 2, Integer.MIN_VALUE, Integer.MAX_VALUE}) {
            Shop.throwing("failure(" + i + ")", IndexOutOfBoundsException.class, () -> shop.failure(i, 9));
        }
    }

    /** The causes of all failures of a run of statements. */
    private static void cause(String statements, long... want) {
        DelegationShop shop = Shop.of(0, "method bad(){guard{fail 70;}on 70 e{fail 71;}} method go(a,b){give lobby,bad,bad;" + statements + "}");
        shop.run(1, 1, 2);
        Shop.due("failures of " + statements, shop.latest(4), want.length);
        for (int i = 0; i < want.length && i < shop.latest(4); i++) {
            Shop.due("cause " + i + " of " + statements, shop.failure(i, 5), want[i]);
        }
    }

    private static void causes() {
        cause("fail 20;", -1);
        cause("guard{fail 20;}on 20 e{fail 21;}", -1, 0);
        cause("guard{fail 20;}on 20 e{} fail 21;", -1, -1);
        cause("guard{fail 20;}on 20 e{} ensure{fail 21;}", -1, -1);
        cause("guard{fail 20;}on 20 e{fail 21;} ensure{fail 22;}", -1, 0, -1);
        cause("guard{fail 20;}on 20 e{guard{1;}ensure{fail 22;}}", -1, 0);
        cause("guard{fail 20;}on 20 e{guard{fail 21;}on 21 f{fail 22;}}", -1, 0, 1);
        cause("guard{fail 20;}on 20 e{guard{fail 21;}on 21 f{} fail 22;}", -1, 0, 0);
        cause("guard{fail 20;}on 20 e{guard{fail 21;}on 21 f{fail 22;}ensure{fail 23;}}", -1, 0, 1, 0);
        cause("guard{fail 20;}on 20 e{self.bad;}", -1, 0, 1);
        cause("guard{self.bad;}on 71 e{fail 22;}", -1, 0, 1);
        cause("guard{fail 20;}on 20 e{[fail 21;]!();}", -1, 0);
        cause("guard{guard{fail 20;}on 20 e{fail 21;}}on 21 f{fail 22;}", -1, 0, 1);
        cause("guard{fail 20;}ensure{fail 21;}", -1, -1);
        cause("guard{guard{fail 20;}on 20 e{answer 1;}ensure{fail 23;}}on 23 f{self.x;}", -1, -1, 1);
    }

    /** The place of the first failure, which is where @ stands. */
    private static void place(int method, String marked) {
        String text = marked.replace("@", "");
        DelegationShop shop = Shop.of(0, text);
        shop.run(shop.count(0) - 1, 1, 2);
        Shop.due("method of the failure of " + text, shop.failure(0, 3), method);
        Shop.due("place of the failure of " + text, shop.failure(0, 4), marked.indexOf('@'));
    }

    private static void placesOfFailures() {
        place(0, "method m(a,b){1; @1/0; 2;}");
        place(0, "method m(a,b){1; @var x=1+(2/0); 2;}");
        place(0, "method m(a,b){@if 1/0 {2;}}");
        place(0, "method m(a,b){if 1 {2; @nil+1;}}");
        place(0, "method m(a,b){if 0 {2;} else {@nil+1;}}");
        place(0, "method m(a,b){var i=2; @while 2/i {i=i-1; write i;}}");
        place(0, "method m(a,b){@while 1/0 {}}");
        place(0, "method m(a,b){while 1 {1; @1/0;}}");
        place(0, "method m(a,b){guard {@1/0;} ensure {2;}}");
        place(0, "method m(a,b){guard {1;} ensure {@1/0;}}");
        place(0, "method m(a,b){[1; @1/0;]!(); 2;}");
        place(0, "method m(a,b){1; @[1;]!(2); 2;}");
        place(0, "method m(a,b){@[1;]!()+nil; 2;}");
        place(0, "method k(){1; @fail 20;} method m(a,b){give lobby,k,k; 1+self.k;}");
        place(1, "method k(){1;} method m(a,b){give lobby,k,k; @self.k(1);}");
        place(1, "method k(){1;} method m(a,b){give lobby,k,k; @self.k+1;}");
        place(0, "method k(f){answer [@answer f+nil;];} method m(a,b){give lobby,k,k; var f=self.k(1); f!();}");
        place(1, "method k(f){f!(); nil+1;} method m(a,b){give lobby,k,k; self.k([@answer nil+2;]);}");
        place(0, "method m(a,b){@set self,n=1;}");
        place(0, "method m(a,b){@fail 20;}");
        place(0, "method m(a,b){var f=[|x| answer x;]; @answer f!(1)+f!(nil);}");
    }

    private static void keptRows() {
        DelegationShop shop = Shop.of(2, "method k(){} method m(a,b){give lobby,k,k; var i=0; while i<a {self.k; guard{fail 20,i;}on 0 e{write i;} i=i+1;}}");
        Shop.due("run", shop.run(1, 310, 0), 0);
        Shop.due("written", shop.latest(5), 310);
        Shop.due("written(299, 1)", shop.written(299, 1), 299);
        Shop.throwing("written(300)", IndexOutOfBoundsException.class, () -> shop.written(300, 0));
        Shop.due("begun", shop.latest(6), 311);
        Shop.due("begun(299, 0)", shop.begun(299, 0), 0);
        Shop.throwing("begun(300)", IndexOutOfBoundsException.class, () -> shop.begun(300, 0));
        Shop.due("failures", shop.latest(4), 310);
        Shop.due("failure(63, 2)", shop.failure(63, 2), 63);
        Shop.throwing("failure(64)", IndexOutOfBoundsException.class, () -> shop.failure(64, 0));
        DelegationShop late = Shop.of(0, "method m(a,b){var i=0; while i<a {guard{fail 20,i;}on 0 e{} i=i+1;} fail 21;}");
        Shop.due("run", late.run(0, 100, 0), 1);
        Shop.due("left by a failure that is not kept", late.latest(3), 100);
    }

    private static void callsSinceLoad() {
        String text = "method k(){} method m(a,b){give lobby,k,k; self.k; self.k; self.k(1);} method n(a,b){}";
        DelegationShop shop = Shop.of(0, text);
        shop.run(1, 0, 0);
        shop.run(1, 0, 0);
        Shop.due("calls(0)", shop.calls(0), 4);
        Shop.due("calls(1)", shop.calls(1), 2);
        Shop.due("calls(2)", shop.calls(2), 0);
        for (int m : new int[] {-1, 3, Integer.MIN_VALUE, Integer.MAX_VALUE}) {
            Shop.throwing("calls(" + m + ")", IndexOutOfBoundsException.class, () -> shop.calls(m));
        }
        Shop.load(shop, text);
        Shop.due("calls(0) of the new text", shop.calls(0), 0);
    }
}
