/**
 * The sentences of section 6 of the document that name a boundary case, one after another: each method's comment is the
 * sentence whose case it tries.
 */
public final class EdgesOfSitesTest {
    public static void main(String[] args) {
        nothingInMannerNought();
        oneInMannerOne();
        fourOfASite();
        emptyAgainBetween();
        moreThan128InTheTable();
        theSameInTheTable();
        theTableOfOtherNames();
        usesBehindTheStep();
        whatEntriesRestOn();
        voidsInTheirOrder();
        voidsOfTheTable();
        theLatestChange();
        sitesBesideTheTable();
        countsAreForgotten();
        forgottenByLoad();
        notFoundAndHandlers();
        Shop.finish();
    }

    /** State, entries, USES, MISSES, VOIDS and TESTS of a site. */
    private static void site(DelegationShop shop, int i, int... want) {
        StringBuilder got = new StringBuilder();
        StringBuilder due = new StringBuilder();
        for (int what = 2; what <= 7; what++) {
            got.append(" ").append(shop.site(i, what));
            due.append(" ").append(want[what - 2]);
        }
        Shop.same("site " + i, got.toString(), due.toString());
        Shop.due("astray", shop.astray(), 0);
    }

    /** SHAPE, START, PLACE, HOLDER and NAME of an entry. */
    private static void entry(DelegationShop shop, int i, int k, int... want) {
        for (int what = 0; what < 5; what++) {
            Shop.due("entry(" + i + ", " + k + ", " + what + ")", shop.entry(i, k, what), want[what]);
        }
    }

    /** The objects on which an entry rests. */
    private static void rests(DelegationShop shop, int i, int k, String want) {
        StringBuilder got = new StringBuilder();
        for (int o = 0; o < shop.count(4); o++) {
            got.append(shop.rests(i, k, o) ? " " + o : "");
        }
        Shop.same("what entry " + k + " of " + i + " rests on", got.toString(), want);
    }

    private static void gone(DelegationShop shop, String want) {
        StringBuilder got = new StringBuilder();
        for (int j = 0; j < shop.voids(); j++) {
            for (int what = 0; what < 4; what++) {
                got.append(what == 0 ? "/" : " ").append(shop.gone(j, what));
            }
        }
        Shop.same("what was gone", got.toString(), want);
    }

    /**
     * Site 0 asks a number for n, which object 0 holds: the first parent of object 1, whose shape has the NAMES p to y,
     * as many as asked for, behind it.
     */
    private static DelegationShop probe(int manner) {
        DelegationShop shop = Shop.of(manner, "method m(a,b){answer a.n;} method k(a,b){drop a,p; drop a,q; drop a,r; drop a,s; drop a,t; drop a,u;}");
        shop.change(1, 3, 0, 0);
        shop.change(0, 0, 1, 50);
        return shop;
    }

    private static void ask(DelegationShop shop, int times) {
        for (int n = 0; n < times; n++) {
            Shop.same("run", Shop.outcome(shop, 0, 5, 0), "0 1:50");
        }
    }

    /** The shapes of object 1, from the one with n NAMES behind its parent on. */
    private static void grow(DelegationShop shop, int x) {
        Shop.due("add", shop.change(1, 0, x + 1, 0), 0);
    }

    /** MANNER 0: nothing is remembered. (Counts of a SITE: not in MANNER 0.) */
    private static void nothingInMannerNought() {
        DelegationShop shop = probe(0);
        ask(shop, 3);
        site(shop, 0, 0, 0, 0, 0, 0, 0);
        shop.change(0, 0, 2, 0);
        Shop.due("voids", shop.voids(), 0);
        Shop.due("table", shop.count(7), 0);
        shop.manner(2);
        ask(shop, 1);
        site(shop, 0, 1, 1, 1, 1, 0, 0);
        shop.manner(0);
        site(shop, 0, 0, 0, 0, 0, 0, 0);
        ask(shop, 1);
        site(shop, 0, 0, 0, 0, 0, 0, 0);
    }

    /** MANNER 1: it has at most one entry, the new one takes its place. */
    private static void oneInMannerOne() {
        DelegationShop shop = probe(1);
        ask(shop, 2);
        site(shop, 0, 1, 1, 2, 1, 0, 1);
        int first = shop.shape(1);
        for (int x = 1; x <= 6; x++) {
            grow(shop, x);
            ask(shop, 1);
            site(shop, 0, 1, 1, 2 + x, 1 + x, 0, 1 + x);
            entry(shop, 0, 0, shop.shape(1), 0, 1, 0, 1);
        }
        for (int x = 6; x >= 1; x--) {
            shop.change(1, 2, x + 1, 0);
        }
        Shop.due("the first shape", shop.shape(1), first);
        ask(shop, 1);
        site(shop, 0, 1, 1, 9, 8, 0, 8);
        shop.change(0, 0, 2, 0);
        site(shop, 0, 1, 0, 9, 8, 1, 8);
        Shop.due("voids", shop.voids(), 1);
        ask(shop, 1);
        site(shop, 0, 1, 1, 10, 9, 1, 8);
    }

    /** ONE .. becomes SEVERAL (2); SEVERAL with fewer than four: likewise behind; with four: MANY (3): it has none from then on. */
    private static void fourOfASite() {
        DelegationShop shop = probe(2);
        site(shop, 0, 0, 0, 0, 0, 0, 0);
        int[] shapes = new int[5];
        int tests = 0;
        for (int k = 0; k < 4; k++) {
            shapes[k] = shop.shape(1);
            ask(shop, 1);
            tests += k;
            site(shop, 0, k == 0 ? 1 : 2, k + 1, 2 * k + 1, k + 1, 0, tests);
            ask(shop, 1);
            tests += k + 1;
            site(shop, 0, k == 0 ? 1 : 2, k + 1, 2 * k + 2, k + 1, 0, tests);
            for (int n = 0; n <= k; n++) {
                entry(shop, 0, n, shapes[n], 0, 1, 0, 1);
            }
            grow(shop, k + 1);
        }
        shapes[4] = shop.shape(1);
        ask(shop, 1);
        site(shop, 0, 3, 0, 9, 5, 0, tests + 4);
        Shop.due("table", shop.count(7), 1);
        entry(shop, -1, 0, shapes[4], 0, 1, 0, 1);
        Shop.throwing("entry(0, 0)", IndexOutOfBoundsException.class, () -> shop.entry(0, 0, 0));
        ask(shop, 1);
        site(shop, 0, 3, 0, 10, 5, 0, tests + 5);
        // what it had as its own it does not know any more
        shop.change(1, 2, 5, 0);
        Shop.due("the fourth shape", shop.shape(1), shapes[3]);
        ask(shop, 2);
        site(shop, 0, 3, 0, 12, 6, 0, tests + 7);
        Shop.due("table", shop.count(7), 2);
        entry(shop, -1, 1, shapes[3], 0, 1, 0, 1);
    }

    /** ONE without an entry stays ONE with it; states don't go back. */
    private static void emptyAgainBetween() {
        DelegationShop shop = probe(2);
        ask(shop, 1);
        shop.change(0, 0, 2, 0);
        site(shop, 0, 1, 0, 1, 1, 1, 0);
        grow(shop, 1);
        ask(shop, 1);
        site(shop, 0, 1, 1, 2, 2, 1, 0);
        grow(shop, 2);
        ask(shop, 1);
        site(shop, 0, 2, 2, 3, 3, 1, 1);
        shop.change(0, 2, 2, 0);
        site(shop, 0, 2, 0, 3, 3, 3, 1);
        Shop.due("voids", shop.voids(), 2);
        ask(shop, 1);
        site(shop, 0, 2, 1, 4, 4, 3, 1);
        for (int x = 3; x <= 5; x++) {
            grow(shop, x);
            ask(shop, 1);
        }
        site(shop, 0, 2, 4, 7, 7, 3, 7);
        shop.change(0, 0, 2, 0);
        site(shop, 0, 2, 0, 7, 7, 7, 7);
        // four became void: it is SEVERAL with fewer than four again
        grow(shop, 6);
        ask(shop, 1);
        site(shop, 0, 2, 1, 8, 8, 7, 7);
        for (int x = 6; x >= 3; x--) {
            shop.change(1, 2, x + 1, 0);
            ask(shop, 1);
        }
        site(shop, 0, 3, 0, 12, 12, 7, 17);
        Shop.due("table", shop.count(7), 1);
        shop.change(0, 2, 2, 0);
        site(shop, 0, 3, 0, 12, 12, 7, 17);
        Shop.due("table", shop.count(7), 0);
        Shop.due("voids", shop.voids(), 1);
        ask(shop, 1);
        site(shop, 0, 3, 0, 13, 13, 7, 18);
    }

    private static final String CHAIN = "method one(a,b){var p=self; if b {p=self.top;} var i=0; while i<a {var o=new; link o,p; add o,n=p; o.n; p=o; i=i+1;} if b {set self,top=p;} else {add self,top=p;}}"
        + " method two(a,b){var o=self.top; while b {o=o.n; b=b-1;} while a {o=o.n; a=a-1;}}";

    /** If there are 128, these go first (they are not VOID). */
    private static void moreThan128InTheTable() {
        // site 1 meets a shape of its own for each object; the first four are its own, the fifth is the TABLE's first
        DelegationShop shop = Shop.of(2, CHAIN);
        Shop.due("run", shop.run(0, 132, 0), 0);
        site(shop, 1, 3, 0, 132, 132, 0, 6 + 4 + 127);
        Shop.due("table", shop.count(7), 128);
        entry(shop, -1, 0, shop.shape(8), 0, 0, -1, 2);
        entry(shop, -1, 127, shop.shape(135), 0, 0, -1, 2);
        int voids = shop.site(0, 6) + shop.site(1, 6) + shop.voids();
        Shop.due("one more", shop.run(0, 1, 1), 0);
        Shop.due("table", shop.count(7), 1);
        entry(shop, -1, 0, shop.shape(136), 0, 0, -1, 2);
        Shop.throwing("entry(-1, 1)", IndexOutOfBoundsException.class, () -> shop.entry(-1, 1, 0));
        Shop.due("they are not void", shop.site(0, 6) + shop.site(1, 6) + shop.voids(), voids);
        site(shop, 1, 3, 0, 133, 133, 0, 138);
        Shop.due("another", shop.run(0, 1, 1), 0);
        Shop.due("table", shop.count(7), 2);
        Shop.due("fill it", shop.run(0, 55, 1), 0);
        Shop.due("table", shop.count(7), 57);
    }

    /** The TABLE: behind all others, if none there has the same SHAPE, NAME and START. */
    private static void theSameInTheTable() {
        DelegationShop shop = Shop.of(2, CHAIN);
        shop.run(0, 132, 0);
        Shop.due("table", shop.count(7), 128);
        // the site of o.n in the last loop of two becomes MANY with a shape that the TABLE has: nothing comes, nothing goes
        Shop.due("run", shop.run(1, 5, 0), 0);
        site(shop, 5, 3, 0, 5, 5, 0, 10);
        Shop.due("table", shop.count(7), 128);
        entry(shop, -1, 0, shop.shape(8), 0, 0, -1, 2);
        entry(shop, -1, 127, shop.shape(135), 0, 0, -1, 2);
        // from then on it finds there what another site brought
        Shop.due("run", shop.run(1, 20, 0), 0);
        site(shop, 5, 3, 0, 25, 5, 0, 30);
        Shop.due("table", shop.count(7), 128);
        // one that isn't there: the shape of the first object, with which site 1 was not MANY yet; the 128 go
        Shop.due("run", shop.run(1, 1, 131), 0);
        Shop.due("table", shop.count(7), 4);
        entry(shop, -1, 0, shop.shape(7), 0, 0, -1, 2);
        entry(shop, -1, 3, shop.shape(4), 0, 0, -1, 2);
    }

    /** A site that is MANY looks in the TABLE (for the NAME, too). */
    private static void theTableOfOtherNames() {
        DelegationShop shop = Shop.of(2, "method up(){above.n;} method m(a,b){var i=0; var p=self; while i<6 {var o=new; link o,p; link p,o; add o,n=1; add o,q=2;"
            + " write o.n; write o.q; p=o; i=i+1;}} method k(a,b){}");
        Shop.due("run", shop.run(1, 0, 0), 0);
        Shop.same("written", Shop.writtenOf(shop), " 1:1 1:2".repeat(6));
        site(shop, 1, 3, 0, 6, 6, 0, 11);
        site(shop, 2, 3, 0, 6, 6, 0, 11);
        Shop.due("table", shop.count(7), 4);
        for (int k = 0; k < 4; k++) {
            entry(shop, -1, k, shop.next(shop.next(shop.next(0, 2, 7 + k / 2), 0, 1), 0, 2), 0, 0, -1, 1 + k % 2);
        }
        Shop.due("of one shape", shop.entry(-1, 0, 0), shop.entry(-1, 1, 0));
        // the same SHAPE and NAME, but other STARTs: six methods that stand in six parents of one object go above
        DelegationShop starts = Shop.of(2, "method up(n){if n {above.n(n-1);}} method end(n){} method m(a,b){var o=new; var i=0; while i<7 {var p=new; give p,n,up; link o,p; i=i+1;}"
            + " var q=new; give q,n,end; link o,q; o.n(a); o.n(a);}");
        Shop.due("run", starts.run(2, 9, 0), 0);
        site(starts, 0, 3, 0, 14, 7 + 4, 0, 6 + 4 + 2 + 7);
        Shop.due("table", starts.count(7), 7);
        int shape = starts.shape(4);
        int[] holders = {5, 6, 7, 8, 9, 10, 11};
        int[] at = {4, 5, 6, 0, 1, 2, 3};
        for (int k = 0; k < 7; k++) {
            int h = holders[at[k]];
            entry(starts, -1, k, shape, h + 1, h - 3, h + 1, 1);
        }
    }

    /** A SITE that is USED (its message or set is done, behind the STEP). */
    private static void usesBehindTheStep() {
        DelegationShop shop = Shop.of(1, "method m(a,b){guard{self.n(1/0);}on 5 e{} guard{set self,n=1/0;}on 5 f{} guard{above.n(1/0);}on 5 g{} guard{self.n(1);}on 0 h{} guard{set nil,n=1;}on 0 i{}}");
        Shop.due("run", shop.run(0, 0, 0), 0);
        for (int i = 0; i < 3; i++) {
            site(shop, i, 0, 0, 0, 0, 0, 0);
        }
        site(shop, 3, 1, 1, 1, 1, 0, 0);
        site(shop, 4, 1, 1, 1, 1, 0, 0);
        entry(shop, 4, 0, 0, 0, -1, -1, 1);
        // also those whose METHOD cannot begin: for its arguments, or for DEPTH
        DelegationShop deep = Shop.of(1, "method k(n){self.n(n);} method m(a,b){give self,n,k; if a {self.n(1);} self.n;}");
        Shop.due("too deep", deep.run(1, 1, 0), 3);
        site(deep, 0, 1, 1, 59, 1, 0, 58);
        Shop.due("run", deep.run(1, 0, 0), 1);
        site(deep, 2, 1, 1, 1, 1, 0, 0);
    }

    /** PLACE 0: none; found in the WAY: all from the first of the WAY (also those that START passes over) to the HOLDER; NOT FOUND: all of the WAY. */
    private static void whatEntriesRestOn() {
        String text = "method one(){} method up(){above.n;} method m(a,b){var o=new; var p=new; var q=new; var r=new; link o,p; link p,q; link o,r; link r,o; "
            + "give r,n,one; give q,n,up; add p,v=1; add r,w=1; o.n; o.v; o.w; guard{o.x;}on 1 e{} add o,y=1; o.y; p.v; guard{self.x;}on 1 f{}}";
        for (int manner = 1; manner <= 2; manner++) {
            DelegationShop shop = Shop.of(manner, text);
            Shop.due("run", shop.run(2, 0, 0), 0);
            int shape = shop.shape(4);
            // the way of o (4) is p (5), q (6), r (7), o (4)
            int was = shop.entry(1, 0, 0);
            entry(shop, 0, 0, was, 7, 3, 7, 1);
            rests(shop, 0, 0, " 5 6 7");
            entry(shop, 1, 0, was, 0, 2, 6, 1);
            rests(shop, 1, 0, " 5 6");
            entry(shop, 2, 0, was, 0, 1, 5, 2);
            rests(shop, 2, 0, " 5");
            entry(shop, 3, 0, was, 0, 3, 7, 3);
            rests(shop, 3, 0, " 5 6 7");
            // NOT FOUND: it rests on o, too, which is the last of its own way; so it went when y came to o
            site(shop, 4, 1, 0, 1, 1, 1, 0);
            entry(shop, 5, 0, shape, 0, 0, -1, 5);
            rests(shop, 5, 0, "");
            rests(shop, 6, 0, "");
            entry(shop, 7, 0, 0, 0, -1, -1, 4);
            rests(shop, 7, 0, "");
            gone(shop, "/4 " + was + " 4 0");
            for (int far : new int[] {-1, 8, Integer.MIN_VALUE, Integer.MAX_VALUE}) {
                Shop.throwing("rests(0, 0, " + far + ")", IndexOutOfBoundsException.class, () -> shop.rests(0, 0, far) ? 1 : 0);
            }
            shop.change(7, 0, 5, 0);
            gone(shop, "/0 " + was + " 1 7/3 " + was + " 3 0");
            shop.change(6, 0, 5, 0);
            gone(shop, "/1 " + was + " 1 0");
            shop.change(5, 0, 5, 0);
            gone(shop, "/2 " + was + " 2 0");
            shop.change(4, 0, 2, 0);
            gone(shop, "");
        }
    }

    /** All entries that rest on it are VOID: they go (others keep their order). */
    private static void voidsInTheirOrder() {
        // site 0 meets four shapes: those of two children of x (5) and of two children of y (6), in turn
        String text = "method m(a,b){var o=new; var x=new; var y=new; add x,n=1; add y,n=2; add o,x=x; add o,y=y; var i=0; while i<4 {var c=new; if i==0 {link c,x;} if i==1 {link c,y;}"
            + " if i==2 {add c,p=1; link c,x;} if i==3 {add c,p=1; link c,y;} write c.n; i=i+1;}}";
        for (int first = 5; first <= 6; first++) {
            DelegationShop shop = Shop.of(2, text);
            Shop.due("run", shop.run(0, 0, 0), 0);
            Shop.same("written", Shop.writtenOf(shop), " 1:1 1:2 1:1 1:2");
            site(shop, 0, 2, 4, 4, 4, 0, 6);
            int[] shapes = new int[4];
            for (int k = 0; k < 4; k++) {
                shapes[k] = shop.shape(7 + k);
                entry(shop, 0, k, shapes[k], 0, 1, 5 + k % 2, 1);
            }
            shop.change(first, 0, 0, 0);
            site(shop, 0, 2, 2, 4, 4, 2, 6);
            int k = first == 5 ? 0 : 1;
            gone(shop, "/0 " + shapes[k] + " 1 0/0 " + shapes[k + 2] + " 1 0");
            entry(shop, 0, 0, shapes[1 - k], 0, 1, 11 - first, 1);
            entry(shop, 0, 1, shapes[3 - k], 0, 1, 11 - first, 1);
            rests(shop, 0, 0, " " + (11 - first));
            rests(shop, 0, 1, " " + (11 - first));
            shop.change(11 - first, 0, 0, 0);
            site(shop, 0, 2, 0, 4, 4, 4, 6);
            gone(shop, "/0 " + shapes[1 - k] + " 1 0/0 " + shapes[3 - k] + " 1 0");
        }
    }

    /** Those of sites first, by the sites' numbers and then in their order, then those of the TABLE in its order. */
    private static void voidsOfTheTable() {
        // site 0 becomes MANY with its fifth shape; the TABLE's entries rest on x (4) and y (5) in turn, and site 1's on both
        String text = "method m(a,b){var x=new; var y=new; add x,n=1; add y,n=2; var i=0; var q=nil; while i<12 {var c=new; link c,c; unlink c,c; if i%2==0 {link c,x;} else {link c,y;}"
            + " link c,c; c.n; if i>9 {c.n; c.p;} i=i+1;}} method lost(n,k){}";
        DelegationShop shop = Shop.of(2, text);
        shop.change(0, 1, 0, 1);
        Shop.due("run", shop.run(0, 0, 0), 1);
        site(shop, 0, 3, 0, 11, 11, 0, 6 + 4 + 6);
        site(shop, 1, 1, 1, 1, 1, 0, 0);
        site(shop, 2, 1, 1, 1, 1, 0, 0);
        Shop.due("table", shop.count(7), 7);
        int[] shapes = new int[7];
        for (int k = 0; k < 7; k++) {
            shapes[k] = shop.shape(10 + k);
            entry(shop, -1, k, shapes[k], 0, 1, 4 + k % 2, 1);
            rests(shop, -1, k, " " + (4 + k % 2));
        }
        rests(shop, 2, 0, " 4 16");
        shop.change(5, 0, 0, 0);
        gone(shop, "/-1 " + shapes[1] + " 1 0/-1 " + shapes[3] + " 1 0/-1 " + shapes[5] + " 1 0");
        Shop.due("table", shop.count(7), 4);
        for (int k = 0; k < 4; k++) {
            entry(shop, -1, k, shapes[2 * k], 0, 1, 4, 1);
            rests(shop, -1, k, " 4");
        }
        site(shop, 0, 3, 0, 11, 11, 0, 16);
        shop.change(4, 0, 0, 0);
        gone(shop, "/1 " + shapes[6] + " 1 0/2 " + shapes[6] + " 2 0/-1 " + shapes[0] + " 1 0/-1 " + shapes[2] + " 1 0/-1 " + shapes[4] + " 1 0/-1 " + shapes[6] + " 1 0");
        Shop.due("table", shop.count(7), 0);
        site(shop, 1, 1, 0, 1, 1, 1, 0);
        Shop.throwing("gone(6)", IndexOutOfBoundsException.class, () -> shop.gone(6, 0));
        Shop.throwing("gone(0, 4)", IllegalArgumentException.class, () -> shop.gone(0, 4));
    }

    /** When an object's shape became another one the latest time since load() (0 before any). */
    private static void theLatestChange() {
        DelegationShop shop = probe(2);
        Shop.due("voids", shop.voids(), 0);
        ask(shop, 1);
        Shop.due("drop of none", shop.change(0, 2, 2, 0), 7);
        Shop.due("voids", shop.voids(), 0);
        shop.change(0, 0, 2, 0);
        Shop.due("voids", shop.voids(), 1);
        // what is refused, what changes a value alone, and what makes an object leave it
        Shop.due("drop of none", shop.change(0, 2, 3, 0), 7);
        Shop.due("a give that does not fit", shop.change(0, 1, 2, 0), 7);
        Shop.due("another value", shop.change(0, 0, 2, 9), 0);
        ask(shop, 1);
        shop.forget();
        shop.manner(1);
        Shop.due("voids", shop.voids(), 1);
        gone(shop, "/0 1 1 0");
        shop.manner(2);
        // a change of the object that no entry rests on
        Shop.due("a change of another", shop.change(3, 0, 2, 9), 0);
        Shop.due("voids", shop.voids(), 0);
        Shop.throwing("gone(0)", IndexOutOfBoundsException.class, () -> shop.gone(0, 0));
        ask(shop, 1);
        shop.change(0, 2, 2, 0);
        Shop.due("voids", shop.voids(), 1);
        Shop.load(shop, "method m(a,b){answer a.n;}");
        Shop.due("voids behind load()", shop.voids(), 0);
        Shop.throwing("gone(0)", IndexOutOfBoundsException.class, () -> shop.gone(0, 0));
        // new and clone change no shape
        DelegationShop made = Shop.of(2, "method m(a,b){var o=new; var p=new; link o,p; add p,n=1; o.n; drop p,n;} method k(a,b){new; clone(self); add self,z=[]; set self,z=1;}");
        made.change(0, 0, 2, 0);
        Shop.due("run", made.run(0, 0, 0), 0);
        Shop.due("voids", made.voids(), 1);
        Shop.due("run", made.run(1, 0, 0), 0);
        Shop.due("voids", made.voids(), 1);
    }

    /** The entries of each site and those of the TABLE are their own. */
    private static void sitesBesideTheTable() {
        StringBuilder text = new StringBuilder("method m(a,b){");
        for (int i = 0; i < 149; i++) {
            text.append(i % 2 == 0 ? "a.n;" : "set a,n=1;");
        }
        text.append("} method k(a,b){var i=0; var p=self; while i<9 {var o=new; link o,p; add o,n=1; o.n; p=o; i=i+1;}}");
        DelegationShop shop = Shop.of(2, text.toString());
        shop.change(1, 0, 1, 50);
        Shop.due("run", shop.run(1, 0, 0), 0);
        for (int n = 0; n < 4; n++) {
            Shop.due("run", shop.run(0, 5, 0), 0);
            Shop.due("link", shop.change(1, 3, n, 0), 0);
        }
        Shop.due("table", shop.count(7), 5);
        for (int i = 0; i < 149; i++) {
            site(shop, i, 2, 4, 4, 4, 0, 6);
            for (int k = 0; k < 4; k++) {
                Shop.due("shape of entry " + k + " of " + i, shop.entry(i, k, 0), shop.entry(0, k, 0));
                Shop.due("rests on none", shop.rests(i, k, 1) ? 1 : 0, 0);
            }
        }
        site(shop, 149, 3, 0, 9, 9, 0, 6 + 4 + 4);
        for (int k = 0; k < 5; k++) {
            entry(shop, -1, k, shop.shape(8 + k), 0, 0, -1, 1);
        }
        Shop.due("entries of the first site", shop.entry(0, 3, 0), shop.next(shop.next(shop.next(shop.next(0, 0, 1), 2, 0), 2, 1), 2, 2));
    }

    /** By forget(), manner(), load(): then all sites are EMPTY, the TABLE is empty, all counts of sites are 0. */
    private static void countsAreForgotten() {
        for (int how = 0; how <= 5; how++) {
            DelegationShop shop = Shop.of(2, CHAIN);
            shop.run(0, 20, 0);
            shop.run(1, 3, 0);
            shop.change(0, 0, 0, 0);
            Shop.due("something is remembered", shop.count(7) > 0 && shop.site(5, 3) > 0 && shop.site(1, 4) > 0 ? 1 : 0, 1);
            String objects = objectsOf(shop);
            if (how == 0) {
                shop.forget();
            } else if (how <= 3) {
                shop.manner(how - 1);
            } else if (how == 4) {
                Shop.throwing("manner(3)", IllegalArgumentException.class, () -> {
                    shop.manner(3);
                    return 0;
                });
                Shop.due("it is not forgotten", shop.count(7) > 0 && shop.site(5, 3) > 0 && shop.site(1, 4) > 0 ? 1 : 0, 1);
                continue;
            } else {
                Shop.load(shop, CHAIN);
            }
            for (int i = 0; i < shop.count(2); i++) {
                site(shop, i, 0, 0, 0, 0, 0, 0);
                int n = i;
                Shop.throwing("entry(" + i + ", 0)", IndexOutOfBoundsException.class, () -> shop.entry(n, 0, 0));
            }
            Shop.due("table", shop.count(7), 0);
            Shop.throwing("entry(-1, 0)", IndexOutOfBoundsException.class, () -> shop.entry(-1, 0, 0));
            Shop.same("objects stay, but for load()", how == 5 ? objects : objectsOf(shop), objects);
            Shop.due("manner", shop.count(8), how >= 1 && how <= 3 ? how - 1 : 2);
            shop.manner(2);
            Shop.due("run", shop.run(0, 5, how == 5 ? 0 : 1), 0);
            site(shop, 1, 3, 0, 5, 5, 0, 10);
        }
    }

    private static String objectsOf(DelegationShop shop) {
        StringBuilder all = new StringBuilder();
        for (int o = 0; o < shop.count(4); o++) {
            all.append(shop.shape(o)).append(" ").append(shop.held(o, 1, 1)).append(" ");
        }
        return all.append(shop.latest(2)).append(" ").append(shop.calls(0)).toString();
    }

    /** load(): all is new: objects, shapes, sites, counts, rows of the latest RUN (the MANNER stays). */
    private static void forgottenByLoad() {
        for (int manner = 0; manner <= 2; manner++) {
            DelegationShop used = Shop.of(manner, CHAIN);
            String fresh = Snapshot.of(used);
            for (int n = 0; n < 3; n++) {
                used.run(0, 140, 0);
                used.run(1, 5, 0);
                used.change(0, 3, 1, 0);
                Shop.same("it is another one", Snapshot.of(used).equals(fresh), false);
                Shop.due("load()", Shop.load(used, CHAIN), 2);
                Shop.same("all is new", Snapshot.of(used), fresh);
            }
        }
    }

    /** The look-up of a HANDLER is not of a site: it is not remembered. */
    private static void notFoundAndHandlers() {
        DelegationShop shop = Shop.of(2, "method lost(n,k){answer n;} method m(a,b){give self,lost,lost; self.foo; self.foo(1); above.bar; self.lost(1,2);}");
        Shop.due("run", shop.run(1, 0, 0), 0);
        for (int i = 0; i < 4; i++) {
            site(shop, i, 1, 1, 1, 1, 0, 0);
            entry(shop, i, 0, shop.shape(0), i == 2 ? -1 : 0, i == 3 ? 0 : -1, -1, i < 2 ? 1 : i == 2 ? 2 : 0);
        }
        Shop.due("run", shop.run(1, 0, 0), 0);
        for (int i = 0; i < 4; i++) {
            site(shop, i, 1, 1, 2, 1, 0, 1);
        }
        Shop.due("begun", shop.latest(6), 5);
    }
}
