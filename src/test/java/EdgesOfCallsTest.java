import java.util.ArrayList;
import java.util.List;
import java.util.function.LongSupplier;

/**
 * Section 7 of the document, and the sentences of the promises 1 to 27 that name a boundary case: what is asked too
 * small, too large, of nothing, or too early. Each method's comment is the sentence whose case it tries.
 */
public final class EdgesOfCallsTest {
    private static final int[] FAR = {-1, Integer.MIN_VALUE, Integer.MAX_VALUE, -2147483647, 1 << 30};
    private static final String TEXT = "method k(n){answer n+1;} method lost(n,k){answer n;} method m(a,b){give self,k,k; add self,v=a; var o=new; link o,self; give o,lost,lost;"
        + " write o.k(a); write o.v; write o.nope(1); add self,f=[|x| answer x+a;]; write self.f!(b); guard{fail 40,b;}on 40 e{self.none;}}";

    public static void main(String[] args) {
        withoutText();
        withoutTextBehindAFault();
        whatIsAskedFirst();
        refusedCallsChangeNothing();
        bytesOfTheTape();
        lengthsOfTheTape();
        methodsOfLoad();
        manners();
        methodsThatRun();
        whats();
        rowsOfTheLatestRun();
        manyValues();
        numbersOfMethods();
        changes();
        bytesOfNames();
        shapesAndItems();
        nextShapes();
        heldValues();
        ways();
        lookUps();
        sitesAndEntries();
        fiveHundredAndTwelveCalls();
        twoShops();
        Shop.finish();
    }

    /** Every call that needs a text, with these arguments. */
    private static List<LongSupplier> calls(DelegationShop shop, int n) {
        List<LongSupplier> all = new ArrayList<>();
        all.add(() -> shop.run(n, n, n));
        all.add(() -> shop.latest(n));
        all.add(() -> shop.written(n, n));
        all.add(() -> shop.begun(n, n));
        all.add(() -> shop.failure(n, n));
        all.add(() -> shop.calls(n));
        all.add(() -> shop.change(n, n, n, n));
        all.add(() -> shop.count(n));
        all.add(() -> shop.nameByte(n, n));
        all.add(() -> shop.shape(n));
        all.add(() -> shop.item(n, n));
        all.add(() -> shop.next(n, n, n));
        all.add(() -> shop.held(n, n, n));
        all.add(() -> shop.way(n, n));
        all.add(() -> shop.look(n, n, n));
        all.add(() -> shop.site(n, n));
        all.add(() -> shop.entry(n, n, n));
        all.add(() -> shop.rests(n, n, n) ? 1 : 0);
        all.add(shop::voids);
        all.add(() -> shop.gone(n, n));
        all.add(shop::astray);
        return all;
    }

    /** IllegalStateException, where nothing else is said: no text was loaded so far. */
    private static void withoutText() {
        for (int n : new int[] {0, 1, -1, 2, 99, Integer.MIN_VALUE, Integer.MAX_VALUE}) {
            DelegationShop shop = new DelegationShop();
            int call = 0;
            for (LongSupplier c : calls(shop, n)) {
                Shop.throwing("call " + call++ + " with " + n + " of a new object", IllegalStateException.class, c);
            }
            // what needs no text
            shop.manner(1);
            shop.forget();
            Shop.due("feed", shop.feed(n, n, n, n, n), 20);
            shop.end(0);
            Shop.due("load() of an empty tape", shop.load(), -1);
        }
    }

    /** No text was loaded so far: one with a FAULT is none. */
    private static void withoutTextBehindAFault() {
        DelegationShop shop = new DelegationShop();
        Shop.due("load()", Shop.load(shop, "method m(a,b){answer a;"), -1 - 23);
        int call = 0;
        for (LongSupplier c : calls(shop, 0)) {
            Shop.throwing("call " + call++ + " behind a fault", IllegalStateException.class, c);
        }
        Shop.due("load()", Shop.load(shop, "method m(a,b){answer a;}"), 1);
        Shop.due("count(0)", shop.count(0), 1);
        Shop.due("load()", Shop.load(shop, "?"), -1);
        Shop.due("the text stays", shop.count(0), 1);
        Shop.due("run", shop.run(0, 6, 0), 0);
    }

    private static DelegationShop shop() {
        DelegationShop shop = Shop.of(2, TEXT);
        Shop.due("run", shop.run(2, 5, 6), 1);
        Shop.due("change", shop.change(0, 0, 0, 3), 0);
        return shop;
    }

    /** Methods throw what their comments name, what stands first if several would do. */
    private static void whatIsAskedFirst() {
        DelegationShop shop = shop();
        for (int n : FAR) {
            Shop.throwing("run", IllegalArgumentException.class, () -> shop.run(n, n, n));
            Shop.throwing("written", IndexOutOfBoundsException.class, () -> shop.written(n, n));
            Shop.throwing("begun", IndexOutOfBoundsException.class, () -> shop.begun(n, n));
            Shop.throwing("failure", IndexOutOfBoundsException.class, () -> shop.failure(n, n));
            Shop.throwing("change: op", IllegalArgumentException.class, () -> shop.change(n, n, n, n));
            for (int op = 0; op < 5; op++) {
                int d = op;
                Shop.throwing("change: object", IndexOutOfBoundsException.class, () -> shop.change(n, d, 0, 0));
                Shop.throwing("change: x", IndexOutOfBoundsException.class, () -> shop.change(0, d, n, 0));
                Shop.throwing("change: x", IndexOutOfBoundsException.class, () -> shop.change(0, d, 99, 0));
            }
            Shop.throwing("change: method", IndexOutOfBoundsException.class, () -> shop.change(0, 1, 0, n));
            Shop.throwing("item", IndexOutOfBoundsException.class, () -> shop.item(n, -1));
            Shop.throwing("held: object", IndexOutOfBoundsException.class, () -> shop.held(n, 0, 9));
            Shop.throwing("held: NAME", IndexOutOfBoundsException.class, () -> shop.held(0, n, 9));
            Shop.throwing("look: object", IndexOutOfBoundsException.class, () -> shop.look(n, 0, -9));
            Shop.throwing("look: NAME", IndexOutOfBoundsException.class, () -> shop.look(0, n, -9));
            Shop.throwing("site", IndexOutOfBoundsException.class, () -> shop.site(n, 9));
            Shop.throwing("entry", IndexOutOfBoundsException.class, () -> shop.entry(n == -1 ? -2 : n, 0, 9));
            Shop.throwing("entry", IndexOutOfBoundsException.class, () -> shop.entry(0, n, 9));
            Shop.throwing("entry of the table", IndexOutOfBoundsException.class, () -> shop.entry(-1, n, 9));
            Shop.throwing("gone", IndexOutOfBoundsException.class, () -> shop.gone(n, 9));
        }
    }

    /** A call that throws changes nothing. */
    private static void refusedCallsChangeNothing() {
        for (int n : FAR) {
            DelegationShop shop = shop();
            String before = Snapshot.of(shop);
            int call = 0;
            for (LongSupplier c : calls(shop, n)) {
                boolean answers = Character.isDigit(Shop.told(c).charAt(0));
                Shop.due("call " + call + " with " + n + " answers", answers ? 1 : 0, call == 18 || call == 20 ? 1 : 0);
                call++;
            }
            Shop.told(() -> shop.run(0, 1, 2));
            Shop.told(() -> shop.run(3, 1, 2));
            Shop.told(() -> shop.change(0, 5, 0, 0));
            Shop.told(() -> shop.change(0, 1, 0, 3));
            Shop.told(() -> shop.change(0, 3, 5, 0));
            Shop.told(() -> {
                shop.manner(n);
                return 0;
            });
            Shop.told(() -> {
                shop.end(n);
                return 0;
            });
            Shop.same("nothing is changed by " + n, Snapshot.of(shop), before);
            Shop.due("the tape is empty", shop.feed(n, n, n, n, n), 20);
        }
    }

    /** feed: twenty bytes more, the highest of each number first: how many it has; it would have more than 6000. */
    private static void bytesOfTheTape() {
        for (int before = 5978; before <= 6000; before++) {
            DelegationShop shop = new DelegationShop();
            for (int n = 0; n < 300; n++) {
                shop.feed(0x20202020, 0x20202020, 0x20202020, 0x20202020, 0x20202020);
            }
            shop.end(before);
            String told = Shop.told(() -> shop.feed(1, 2, 3, 4, 5));
            Shop.same("feed behind " + before, told, before <= 5980 ? "" + (before + 20) : "UnsupportedOperationException");
            if (before > 5980) {
                // the tape is as it was: blanks up to its length
                Shop.due("load()", shop.load(), -1 - before);
            } else {
                Shop.due("load()", shop.load(), -1 - before);
                Shop.due("feed of an empty tape", shop.feed(1, 2, 3, 4, 5), 20);
            }
        }
        // each byte of each number, also those above 127
        for (int at = 0; at < 20; at++) {
            int[] five = {0x20202020, 0x20202020, 0x20202020, 0x20202020, 0x20202020};
            five[at / 4] ^= (0x20 ^ 0xff) << 8 * (3 - at % 4);
            DelegationShop shop = new DelegationShop();
            shop.feed(five[0], five[1], five[2], five[3], five[4]);
            Shop.due("the fault of the byte 255 at " + at, shop.load(), -1 - at);
        }
        DelegationShop shop = new DelegationShop();
        Shop.due("feed", shop.feed(0x6d657468, 0x6f64206d, 0x28612c62, 0x297b616e, 0x73776572), 20);
        Shop.due("feed", shop.feed(0x20622d61, 0x3b7d2020, 0x20202020, 0x20202020, 0x20202020), 40);
        Shop.due("load()", shop.load(), 1);
        Shop.same("run", Shop.outcome(shop, 0, 7, 3), "0 1:-4");
    }

    /** end: the TAPE keeps its first n bytes; n is below 0, or it has fewer. */
    private static void lengthsOfTheTape() {
        DelegationShop shop = new DelegationShop();
        String[] want = {"0", "IllegalArgumentException", "IllegalArgumentException", "IllegalArgumentException"};
        int[] ends = {0, 1, -1, Integer.MIN_VALUE};
        for (int i = 0; i < 4; i++) {
            int n = ends[i];
            Shop.same("end(" + n + ") of an empty tape", Shop.told(() -> {
                shop.end(n);
                return 0;
            }), want[i]);
        }
        Shop.due("feed", shop.feed(0x20202020, 0x20202020, 0x20202020, 0x20202020, 0x20202020), 20);
        for (int n = 20; n >= 0; n--) {
            int length = n;
            Shop.throwing("end(" + (n + 1) + ") of " + n, IllegalArgumentException.class, () -> {
                if (length == 20) {
                    shop.end(21);
                } else {
                    shop.end(length);
                    shop.end(length + 1);
                }
                return 0;
            });
        }
        Shop.due("feed behind end(0)", shop.feed(0, 0, 0, 0, 0), 20);
        shop.end(20);
        Shop.due("feed behind end(20)", shop.feed(0, 0, 0, 0, 0), 40);
        Shop.due("load() of the byte 0", shop.load(), -1);
        Shop.throwing("end(1) behind load()", IllegalArgumentException.class, () -> {
            shop.end(1);
            return 0;
        });
    }

    /** load: how many METHODS it has; or -1 less the place of its FAULT: then nothing else is changed. */
    private static void methodsOfLoad() {
        DelegationShop shop = shop();
        String before = Snapshot.of(shop);
        for (String bad : new String[] {"", "?", "method", "method m(a,b){} method m", TEXT + "}", TEXT.substring(0, TEXT.length() - 1), "method m(){[[[[(((self.a.b.c"}) {
            int fault = Shop.load(shop, bad);
            Shop.due("load() of " + bad + " is below 0", fault < 0 ? 1 : 0, 1);
            Shop.same("nothing else is changed", Snapshot.of(shop), before);
            Shop.due("the tape is empty", shop.feed(0, 0, 0, 0, 0), 20);
            shop.end(0);
        }
        Shop.due("a run of the old text", shop.run(2, 5, 6), 1);
        StringBuilder text = new StringBuilder();
        for (int m = 1; m <= 40; m++) {
            text.append("method m").append((char) ('a' + m / 26)).append((char) ('a' + m % 26)).append("(){}");
            if (m < 4 || m > 38) {
                Shop.due("load() of " + m, Shop.load(shop, text.toString()), m);
                Shop.due("count(0)", shop.count(0), m);
                Shop.due("latest(3)", shop.latest(3), -1);
            }
        }
    }

    /** manner: m is not 0, 1, 2. A new object: MANNER 0. */
    private static void manners() {
        DelegationShop shop = Shop.of(0, TEXT);
        DelegationShop fresh = new DelegationShop();
        Shop.load(fresh, TEXT);
        Shop.due("MANNER of a new object", fresh.count(8), 0);
        for (int m : new int[] {2, -1, 1, 3, 0, Integer.MAX_VALUE, Integer.MIN_VALUE, 2}) {
            boolean fits = m >= 0 && m <= 2;
            int was = shop.count(8);
            Shop.same("manner(" + m + ")", Shop.told(() -> {
                shop.manner(m);
                return 0;
            }), fits ? "0" : "IllegalArgumentException");
            Shop.due("count(8)", shop.count(8), fits ? m : was);
        }
        Shop.load(shop, TEXT);
        Shop.due("the MANNER stays", shop.count(8), 2);
        Shop.load(shop, "?");
        Shop.due("the MANNER stays", shop.count(8), 2);
    }

    /** run: there is no METHOD m, or it has not two parameters. */
    private static void methodsThatRun() {
        String three = "method a(p,q){answer 1;} method b(p,q){answer 2;} method c(p,q){answer 3;}";
        DelegationShop shop = new DelegationShop();
        // what earlier texts had is not there any more
        for (String text : new String[] {three, three, "method a(p,q){answer 4;}", "method a(p,q){answer 5;}", three.replace("b(p,q)", "b(p)")}) {
            int methods = Shop.load(shop, text);
            for (int m = -1; m <= 4; m++) {
                int n = m;
                boolean fits = m >= 0 && m < methods && !(text.contains("b(p)") && m == 1);
                Shop.same("run(" + m + ")", Shop.told(() -> shop.run(n, 0, 0)), fits ? "0" : "IllegalArgumentException");
            }
        }
        String many = "method a(){} method b(p){} method c(p,q){} method d(p,q,r){} method e(p,q,r,s){}";
        Shop.load(shop, many);
        for (int m = 0; m < 5; m++) {
            int n = m;
            Shop.same("run(" + m + ") of " + m + " parameters", Shop.told(() -> shop.run(n, 0, 0)), m == 2 ? "0" : "IllegalArgumentException");
        }
        Shop.due("the latest run is that which was one", shop.latest(6), 1);
        Shop.due("calls", shop.calls(2), 1);
        Shop.due("self", shop.begun(0, 1) * 10 + shop.begun(0, 2), 20);
    }

    private static void whats(String call, int many, java.util.function.LongUnaryOperator of) {
        for (int what = 0; what < many; what++) {
            int w = what;
            Shop.due(call + " " + what + " answers", Character.isLetter(Shop.told(() -> of.applyAsLong(w)).charAt(0)) ? 0 : 1, 1);
        }
        for (int what : new int[] {-1, many, many + 1, Integer.MIN_VALUE, Integer.MAX_VALUE}) {
            Shop.throwing(call + " " + what, IllegalArgumentException.class, () -> of.applyAsLong(what));
        }
    }

    /** IllegalArgumentException: another what. */
    private static void whats() {
        DelegationShop shop = shop();
        whats("latest", 7, w -> shop.latest((int) w));
        whats("written", 2, w -> shop.written(0, (int) w));
        whats("begun", 4, w -> shop.begun(0, (int) w));
        whats("failure", 6, w -> shop.failure(0, (int) w));
        whats("count", 9, w -> shop.count((int) w));
        whats("held", 2, w -> shop.held(0, 1, (int) w));
        whats("held of none", 2, w -> shop.held(3, 1, (int) w));
        whats("site", 9, w -> shop.site(0, (int) w));
        whats("entry", 5, w -> shop.entry(3, 0, (int) w));
        shop.run(2, 1, 1);
        shop.change(0, 2, 0, 0);
        Shop.due("something is gone", shop.voids() > 0 ? 1 : 0, 1);
        whats("gone", 4, w -> shop.gone(0, (int) w));
        for (int what : new int[] {-1, Integer.MIN_VALUE}) {
            Shop.throwing("item " + what, IllegalArgumentException.class, () -> shop.item(0, what));
        }
    }

    /** latest: of the latest RUN (behind load() of none); written, begun, failure: no such one is kept. */
    private static void rowsOfTheLatestRun() {
        DelegationShop shop = Shop.of(1, TEXT);
        for (int n = 0; n < 2; n++) {
            long[] none = {0, 0, 0, -1, 0, 0, 0};
            for (int what = 0; what < 7; what++) {
                Shop.due("latest(" + what + ") of none", shop.latest(what), none[what]);
            }
            Shop.throwing("written(0)", IndexOutOfBoundsException.class, () -> shop.written(0, 0));
            Shop.throwing("begun(0)", IndexOutOfBoundsException.class, () -> shop.begun(0, 0));
            Shop.throwing("failure(0)", IndexOutOfBoundsException.class, () -> shop.failure(0, 0));
            // k, lost and m are begun, four values are written, two failures come; in the second one's place is the MESSAGE none
            Shop.due("run", shop.run(2, 5, 6), 1);
            long[] sums = {0, 0, shop.latest(2), 1, 2, 4, 3};
            for (int what = 0; what < 7; what++) {
                Shop.due("latest(" + what + ")", shop.latest(what), sums[what]);
            }
            Shop.throwing("written(4)", IndexOutOfBoundsException.class, () -> shop.written(4, 0));
            Shop.throwing("begun(3)", IndexOutOfBoundsException.class, () -> shop.begun(3, 0));
            Shop.throwing("failure(2)", IndexOutOfBoundsException.class, () -> shop.failure(2, 0));
            Shop.same("written", Shop.writtenOf(shop), " 1:6 1:5 1:3 1:11");
            Shop.due("cause", shop.failure(1, 5), 0);
            // a RUN of nothing leaves no row of that before it
            Shop.due("run", shop.run(1, 8, 9), 0);
            Shop.throwing("written(0)", IndexOutOfBoundsException.class, () -> shop.written(0, 0));
            Shop.throwing("begun(1)", IndexOutOfBoundsException.class, () -> shop.begun(1, 0));
            Shop.throwing("failure(0)", IndexOutOfBoundsException.class, () -> shop.failure(0, 0));
            Shop.due("latest(3)", shop.latest(3), -1);
            Shop.due("latest(1)", shop.latest(1), 8);
            Shop.load(shop, TEXT);
        }
    }

    /** written, begun: the first 300 are kept. */
    private static void manyValues() {
        for (int many = 298; many <= 302; many++) {
            DelegationShop shop = Shop.of(2, "method k(n){write n;} method m(a,b){give self,k,k; while b<a {b=b+1; self.k(b);}}");
            Shop.due("run", shop.run(1, many, 0), 0);
            Shop.due("written", shop.latest(5), many);
            Shop.due("begun", shop.latest(6), many + 1);
            int kept = Math.min(300, many);
            Shop.due("the last that is kept", shop.written(kept - 1, 1), kept);
            Shop.throwing("written(" + kept + ")", IndexOutOfBoundsException.class, () -> shop.written(kept, 0));
            int begun = Math.min(300, many + 1);
            Shop.due("the last that is kept", shop.begun(begun - 1, 0), 0);
            Shop.due("the first", shop.begun(0, 0), 1);
            Shop.throwing("begun(" + begun + ")", IndexOutOfBoundsException.class, () -> shop.begun(begun, 0));
            Shop.due("calls", shop.calls(0), many);
        }
    }

    /** calls: IndexOutOfBoundsException. */
    private static void numbersOfMethods() {
        DelegationShop shop = shop();
        int[] want = {1, 1, 1};
        for (int m = 0; m < 3; m++) {
            Shop.due("calls(" + m + ")", shop.calls(m), want[m]);
        }
        for (int m : new int[] {3, 4, 39, 40, -1, Integer.MIN_VALUE, Integer.MAX_VALUE}) {
            Shop.throwing("calls(" + m + ")", IndexOutOfBoundsException.class, () -> shop.calls(m));
        }
        Shop.throwing("a run that is refused", IllegalArgumentException.class, () -> shop.run(0, 0, 0));
        Shop.due("calls(0)", shop.calls(0), 1);
    }

    /** change: there is no object o, no NAME x (for 3, 4: no object), no METHOD v (for 1). */
    private static void changes() {
        DelegationShop shop = Shop.of(0, "method m(a,b){self.x; self.y;} method k(){}");
        for (int op = 0; op < 5; op++) {
            int d = op;
            int bound = op >= 3 ? 4 : 3;
            int o = op == 4 ? 0 : op;
            Shop.due("the last x of op " + op, shop.change(o, op, bound - 1, 1), op == 2 || op == 4 ? 7 : 0);
            Shop.throwing("the first beyond", IndexOutOfBoundsException.class, () -> shop.change(0, d, bound, 0));
            Shop.throwing("object 4", IndexOutOfBoundsException.class, () -> shop.change(4, d, 0, 0));
        }
        DelegationShop five = Shop.of(0, "method m(a,b){new;} method k(){}");
        five.run(0, 0, 0);
        Shop.due("a parent that was made", five.change(4, 3, 4, 0), 0);
        Shop.throwing("one that was not", IndexOutOfBoundsException.class, () -> five.change(4, 3, 5, 0));
        Shop.throwing("one that was not", IndexOutOfBoundsException.class, () -> five.change(5, 3, 4, 0));
        DelegationShop give = Shop.of(0, "method m(a,b){self.x;} method k(){}");
        for (long v : new long[] {0, 1, 2, -1, 1L << 32, -(1L << 32), (1L << 32) + 1, Long.MIN_VALUE, Long.MAX_VALUE, 4294967295L}) {
            Shop.same("give of METHOD " + v, Shop.told(() -> give.change(0, 1, 1, v)), v == 0 || v == 1 ? "0" : "IndexOutOfBoundsException");
            // for the others v is a value, or nothing
            Shop.same("add of " + v, Shop.told(() -> give.change(1, 0, 1, v)), "0");
            Shop.due("held", give.held(1, 1, 1), v);
            Shop.same("drop with " + v, Shop.told(() -> give.change(1, 2, 1, v)), "0");
            Shop.same("link with " + v, Shop.told(() -> give.change(1, 3, 1, v)), "0");
            Shop.same("unlink with " + v, Shop.told(() -> give.change(1, 4, 1, v)), "0");
        }
        for (int op : new int[] {-1, 5, 6, Integer.MIN_VALUE, Integer.MAX_VALUE}) {
            Shop.throwing("op " + op, IllegalArgumentException.class, () -> give.change(0, op, 0, 0));
        }
        // a change is no step, no failure and no run
        for (int what = 0; what < 7; what++) {
            Shop.due("latest(" + what + ")", give.latest(what), what == 3 ? -1 : 0);
        }
    }

    /** nameByte: byte k (from 0 on); 0 for none. */
    private static void bytesOfNames() {
        DelegationShop shop = Shop.of(0, "method m(a,b){self.a; self.zz; self.abcdefgh; self.zzzzzzzz;}");
        String[] names = {"lost", "a", "zz", "abcdefgh", "zzzzzzzz"};
        for (int x = 0; x < names.length; x++) {
            for (int k : new int[] {-1, 0, 1, 2, 3, 4, 5, 6, 7, 8, 9, 12, 63, 64, 127, Integer.MIN_VALUE, Integer.MAX_VALUE}) {
                Shop.due("nameByte(" + x + ", " + k + ")", shop.nameByte(x, k), k >= 0 && k < names[x].length() ? names[x].charAt(k) : 0);
            }
        }
        for (int x : new int[] {5, 6, 100, -1, Integer.MIN_VALUE, Integer.MAX_VALUE}) {
            Shop.throwing("nameByte(" + x + ")", IndexOutOfBoundsException.class, () -> shop.nameByte(x, 0));
        }
    }

    /** item: -1 no item; there is no shape s. shape: IndexOutOfBoundsException. */
    private static void shapesAndItems() {
        DelegationShop shop = Shop.of(0, "method m(a,b){self.x; self.y; new;} method k(){}");
        shop.change(0, 3, 0, 0);
        shop.change(0, 0, 0, 0);
        shop.change(0, 1, 2, 0);
        int[][] want = {{0, -1, -1, -1, -1, -1, -1, -1}, {1, 2, 0, -1, -1, -1, -1, -1}, {2, 2, 0, 0, 0, -1, -1, -1}, {3, 2, 0, 0, 0, 1, 2, -1}};
        for (int s = 0; s < 4; s++) {
            for (int what = 0; what < 8; what++) {
                Shop.due("item(" + s + ", " + what + ")", shop.item(s, what), want[s][what]);
            }
            for (int what : new int[] {23, 24, 25, 26, 1000, Integer.MAX_VALUE - 1, Integer.MAX_VALUE}) {
                Shop.due("item(" + s + ", " + what + ")", shop.item(s, what), -1);
            }
        }
        for (int n : new int[] {4, 5, 399, 400, -1, Integer.MIN_VALUE, Integer.MAX_VALUE}) {
            Shop.throwing("item of shape " + n, IndexOutOfBoundsException.class, () -> shop.item(n, 0));
            Shop.throwing("shape of object " + n, IndexOutOfBoundsException.class, () -> shop.shape(n));
        }
        shop.run(0, 0, 0);
        Shop.due("run failed before new", shop.count(4), 4);
        DelegationShop made = Shop.of(0, "method m(a,b){new;}");
        made.run(0, 0, 0);
        Shop.due("shape of the one that was made", made.shape(4), 0);
        Shop.throwing("shape of the next", IndexOutOfBoundsException.class, () -> made.shape(5));
    }

    /** next: -1 if it isn't made; there is no shape s. */
    private static void nextShapes() {
        DelegationShop shop = Shop.of(0, "method m(a,b){self.x; self.y;} method k(){}");
        shop.change(0, 0, 0, 0);
        shop.change(1, 1, 0, 0);
        shop.change(2, 3, 0, 0);
        Shop.due("next(0, 0, 0)", shop.next(0, 0, 0), 1);
        Shop.due("next(0, 1, 0)", shop.next(0, 1, 0), 2);
        Shop.due("next(0, 2, 0)", shop.next(0, 2, 0), 3);
        for (int s = 0; s < 4; s++) {
            for (int kind : new int[] {-1, 0, 1, 2, 3, Integer.MIN_VALUE, Integer.MAX_VALUE}) {
                for (int x : new int[] {-1, 1, 3, 99, 200, Integer.MIN_VALUE, Integer.MAX_VALUE}) {
                    Shop.due("next(" + s + ", " + kind + ", " + x + ")", shop.next(s, kind, x), -1);
                }
            }
        }
        for (int s : new int[] {4, 400, -1, Integer.MIN_VALUE, Integer.MAX_VALUE}) {
            Shop.throwing("next of shape " + s, IndexOutOfBoundsException.class, () -> shop.next(s, 0, 0));
        }
        shop.change(0, 2, 0, 0);
        Shop.due("a shape that no object has any more", shop.next(0, 0, 0), 1);
        // nothing is made by asking
        Shop.due("shapes", shop.count(5), 4);
        // the text before had more shapes
        Shop.load(shop, "method m(a,b){self.x;}");
        Shop.due("next(0, 0, 0) behind load()", shop.next(0, 0, 0), -1);
        Shop.throwing("next(1, 0, 0) behind load()", IndexOutOfBoundsException.class, () -> shop.next(1, 0, 0));
    }

    /** held: -1 if it has no such slot; its WORTH, the METHOD, 0. */
    private static void heldValues() {
        DelegationShop shop = Shop.of(0, "method k(){} method m(a,b){add self,p=nil; add self,q=0-9; add self,r=new; add self,s=[]; give self,t,m; add self,u=0; link self,self; self.v;}");
        shop.run(1, 0, 0);
        int[][] want = {{-1, 0}, {0, 0}, {1, -9}, {2, 4}, {3, 0}, {4, 1}, {1, 0}, {-1, 0}};
        for (int x = 0; x < 8; x++) {
            Shop.due("held(0, " + x + ", 0)", shop.held(0, x, 0), want[x][0]);
            Shop.due("held(0, " + x + ", 1)", shop.held(0, x, 1), want[x][1]);
            Shop.due("held(4, " + x + ", 0)", shop.held(4, x, 0), -1);
            Shop.due("held(4, " + x + ", 1)", shop.held(4, x, 1), 0);
        }
        Shop.throwing("NAME 8", IndexOutOfBoundsException.class, () -> shop.held(0, 8, 0));
        Shop.throwing("object 5", IndexOutOfBoundsException.class, () -> shop.held(5, 0, 0));
        // a parent of the NAME's number is no slot
        shop.change(1, 3, 3, 0);
        Shop.due("held(1, 3, 0)", shop.held(1, 3, 0), -1);
        // a METHOD SLOT's parents do not count: an item of its own
        shop.change(1, 3, 0, 0);
        Shop.due("held(1, 5, 0)", shop.held(1, 5, 0), -1);
    }

    /** way: object k (from 1 on); -1: none. */
    private static void ways() {
        DelegationShop shop = Shop.of(0, "method m(a,b){}");
        shop.change(0, 3, 1, 0);
        shop.change(1, 3, 0, 0);
        for (int o = 0; o < 2; o++) {
            for (int k : new int[] {0, -1, 3, 4, 12, 199, 200, 201, Integer.MIN_VALUE, Integer.MAX_VALUE}) {
                Shop.due("way(" + o + ", " + k + ")", shop.way(o, k), -1);
            }
            Shop.due("way(" + o + ", 1)", shop.way(o, 1), 1 - o);
            Shop.due("way(" + o + ", 2)", shop.way(o, 2), o);
        }
        for (int o : new int[] {4, 200, -1, Integer.MIN_VALUE, Integer.MAX_VALUE}) {
            Shop.throwing("way of " + o, IndexOutOfBoundsException.class, () -> shop.way(o, 1));
        }
    }

    /** look: start is not -1, 0, or h + 1 of an object h. */
    private static void lookUps() {
        DelegationShop shop = Shop.of(0, "method m(a,b){new; self.x;}");
        for (int objects = 4; objects <= 5; objects++) {
            for (int start = -3; start <= 8; start++) {
                int h = start;
                boolean fits = start >= -1 && start <= objects;
                Shop.same("look from " + start + " of " + objects, Shop.told(() -> shop.look(0, 1, h)), fits ? "-1" : "IllegalArgumentException");
            }
            shop.run(0, 0, 0);
        }
        for (int start : new int[] {201, 1000, Integer.MIN_VALUE, Integer.MAX_VALUE}) {
            Shop.throwing("look from " + start, IllegalArgumentException.class, () -> shop.look(0, 1, start));
        }
        Shop.throwing("NAME 2", IndexOutOfBoundsException.class, () -> shop.look(0, 2, 0));
        Shop.throwing("object 6", IndexOutOfBoundsException.class, () -> shop.look(6, 0, 0));
        // whatever is remembered: by looking it up
        DelegationShop remembers = Shop.of(2, "method m(a,b){a.n;} method k(){}");
        remembers.change(1, 3, 0, 0);
        remembers.change(0, 0, 1, 4);
        remembers.run(0, 5, 0);
        Shop.due("uses", remembers.site(0, 4), 1);
        Shop.due("look", remembers.look(1, 1, 0), 1);
        Shop.due("uses", remembers.site(0, 4), 1);
        Shop.due("tests", remembers.site(0, 7), 0);
        Shop.due("entries", remembers.site(0, 3), 1);
    }

    /** site, entry, rests: there is no such site, or entry. */
    private static void sitesAndEntries() {
        DelegationShop none = Shop.of(2, "method m(a,b){add self,n=1;}");
        none.run(0, 0, 0);
        Shop.due("sites", none.count(2), 0);
        for (int i : new int[] {0, 1, -1, -2, 150, Integer.MIN_VALUE, Integer.MAX_VALUE}) {
            Shop.throwing("site(" + i + ")", IndexOutOfBoundsException.class, () -> none.site(i, 0));
            Shop.throwing("entry(" + i + ", 0)", IndexOutOfBoundsException.class, () -> none.entry(i, 0, 0));
            Shop.throwing("rests(" + i + ", 0)", IndexOutOfBoundsException.class, () -> none.rests(i, 0, 0) ? 1 : 0);
        }
        DelegationShop shop = Shop.of(2, "method m(a,b){a.n; a.n;} method k(){}");
        shop.change(1, 0, 1, 4);
        shop.run(0, 5, 0);
        for (int i = 0; i < 2; i++) {
            int site = i;
            Shop.due("entry", shop.entry(site, 0, 2), 0);
            Shop.throwing("entry(" + i + ", 1)", IndexOutOfBoundsException.class, () -> shop.entry(site, 1, 0));
            Shop.throwing("rests(" + i + ", 1)", IndexOutOfBoundsException.class, () -> shop.rests(site, 1, 0) ? 1 : 0);
            Shop.throwing("rests on 4", IndexOutOfBoundsException.class, () -> shop.rests(site, 0, 4) ? 1 : 0);
        }
        Shop.throwing("site(2)", IndexOutOfBoundsException.class, () -> shop.site(2, 0));
        Shop.throwing("entry(2, 0)", IndexOutOfBoundsException.class, () -> shop.entry(2, 0, 0));
        Shop.throwing("rests(2, 0)", IndexOutOfBoundsException.class, () -> shop.rests(2, 0, 0) ? 1 : 0);
    }

    /** An object is used for at most 512 calls after it has been made. */
    private static void fiveHundredAndTwelveCalls() {
        DelegationShop shop = new DelegationShop();
        shop.manner(2);
        String text = "method k(n){answer n+1;} method m(a,b){if a==0 {give self,k,k; add self,s=0;} var i=0; while i<500 {set self,s=self.k(self.s); i=i+1;} answer self.s;}"
            + " method d(a,b){add self,z=a; drop self,z; answer new;}";
        Shop.load(shop, text);
        int used = 1 + (text.length() + 19) / 20 + 2;
        long sum = 0;
        int objects = 4;
        for (int n = 0; used + 4 <= 512; n++) {
            Shop.due("run " + n, shop.run(1, n, 0), 0);
            sum += 500;
            Shop.due("its answer", shop.latest(1), sum);
            boolean room = objects < 200;
            Shop.due("run of another", shop.run(2, n, 0), room ? 0 : 1);
            objects += room ? 1 : 0;
            Shop.due("objects", shop.count(4), objects);
            used += 4;
        }
        Shop.due("calls of k", shop.calls(0), sum);
    }

    /** All memory is the class's own. */
    private static void twoShops() {
        DelegationShop alone = shop();
        String want = Snapshot.of(alone);
        DelegationShop[] both = {new DelegationShop(), new DelegationShop()};
        both[0].manner(2);
        Shop.feed(both[0], TEXT);
        both[1].manner(1);
        Shop.feed(both[1], "method m(a,b){add self,n=b; new; []; self.n; self.p;}");
        Shop.due("load()", both[0].load(), 3);
        Shop.due("load()", both[1].load(), 1);
        Shop.due("run", both[1].run(0, 1, 2), 1);
        Shop.due("run", both[0].run(2, 5, 6), 1);
        both[1].change(0, 2, 1, 0);
        both[1].forget();
        Shop.due("change", both[0].change(0, 0, 0, 3), 0);
        both[1].manner(0);
        Shop.load(both[1], "method m(a,b){}");
        Shop.same("one beside another", Snapshot.of(both[0]), want);
    }
}
