/** Promises 22 to 27: what the sites remember, and what becomes void. */
public final class SitesTest {
    private static final String FAMILY = "method one(){answer 1;} method two(){answer above.n+10;} method go(a,b){var x=new; give x,n,one;"
        + " var y=new; give y,n,two; link y,x; var z=new; link z,y; give z,n,two; answer z.n;}";

    public static void main(String[] args) {
        withoutText();
        factsOfTheText();
        nothingInMannerNought();
        oneEntryInMannerOne();
        statesOfMannerTwo();
        startsOfAbove();
        notFound();
        setsAndNumbers();
        voidEntries();
        orderOfTheGone();
        oneWithoutAnEntry();
        severalWithoutAnEntry();
        theTable();
        whatRests();
        wrongNumbers();
        Shop.finish();
    }

    private static void withoutText() {
        DelegationShop shop = new DelegationShop();
        Shop.throwing("site", IllegalStateException.class, () -> shop.site(-1, -1));
        Shop.throwing("entry", IllegalStateException.class, () -> shop.entry(-1, 0, -1));
        Shop.throwing("rests", IllegalStateException.class, () -> shop.rests(-1, 0, 0) ? 1 : 0);
        Shop.throwing("voids", IllegalStateException.class, shop::voids);
        Shop.throwing("gone", IllegalStateException.class, () -> shop.gone(0, 0));
        Shop.throwing("astray", IllegalStateException.class, shop::astray);
    }

    private static void factsOfTheText() {
        String text = "method m(a,b){self.p(a.q)!(); set a.r,s=above.q; above.p(1).lost; add a,u=1;}";
        DelegationShop shop = Shop.of(2, text);
        int[][] want = {{0, 1, text.indexOf("p(a")}, {0, 2, text.indexOf("q)")}, {0, 3, text.indexOf("r,s")}, {2, 4, text.indexOf("s=")},
            {1, 2, text.indexOf("q;")}, {1, 1, text.indexOf("p(1")}, {0, 0, text.indexOf("lost")}};
        Shop.due("sites", shop.count(2), want.length);
        for (int i = 0; i < want.length; i++) {
            Shop.due("kind of " + i, shop.site(i, 0), want[i][0]);
            Shop.due("NAME of " + i, shop.site(i, 1), want[i][1]);
            Shop.due("place of " + i, shop.site(i, 8), want[i][2]);
            for (int what = 2; what <= 7; what++) {
                Shop.due("site(" + i + ", " + what + ")", shop.site(i, what), 0);
            }
        }
    }

    /** State, entries, USES, MISSES, VOIDS and TESTS of a site. */
    private static void site(DelegationShop shop, int i, int... want) {
        StringBuilder got = new StringBuilder();
        StringBuilder due = new StringBuilder();
        for (int what = 2; what <= 7; what++) {
            got.append(" ").append(shop.site(i, what));
            due.append(" ").append(want[what - 2]);
        }
        Shop.same("site " + i, got.toString(), due.toString());
        Shop.due("astray", shop.astray(), 0);
    }

    /** SHAPE, START, PLACE, HOLDER and NAME of an entry. */
    private static void entry(DelegationShop shop, int i, int k, int... want) {
        for (int what = 0; what < 5; what++) {
            Shop.due("entry(" + i + ", " + k + ", " + what + ")", shop.entry(i, k, what), want[what]);
        }
    }

    private static void restsOn(DelegationShop shop, int i, int k, int... want) {
        for (int o = 0; o < shop.count(4); o++) {
            boolean due = false;
            for (int w : want) {
                due = due || w == o;
            }
            Shop.due("rests(" + i + ", " + k + ", " + o + ")", shop.rests(i, k, o) ? 1 : 0, due ? 1 : 0);
        }
    }

    private static void gone(DelegationShop shop, int j, int... want) {
        for (int what = 0; what < 4; what++) {
            Shop.due("gone(" + j + ", " + what + ")", shop.gone(j, what), want[what]);
        }
    }

    private static void nothingInMannerNought() {
        DelegationShop shop = Shop.of(0, FAMILY);
        Shop.same("run", Shop.outcome(shop, 2, 0, 0), "0 1:21");
        for (int i = 0; i < 2; i++) {
            site(shop, i, 0, 0, 0, 0, 0, 0);
        }
        shop.change(4, 0, 0, 0);
        Shop.due("voids", shop.voids(), 0);
        Shop.due("table", shop.count(7), 0);
    }

    /** A method that asks a number for n: the shapes that meet its site are those of object 1. */
    private static DelegationShop probe(int manner) {
        DelegationShop shop = Shop.of(manner, "method probe(a,b){answer a.n;} method rest(a,b){a.p; a.q; a.r; a.s; a.t;}");
        shop.change(1, 0, 1, 50);
        return shop;
    }

    private static void ask(DelegationShop shop) {
        Shop.same("probe", Shop.outcome(shop, 0, 5, 0), "0 1:50");
    }

    private static void oneEntryInMannerOne() {
        DelegationShop shop = probe(1);
        site(shop, 0, 0, 0, 0, 0, 0, 0);
        ask(shop);
        site(shop, 0, 1, 1, 1, 1, 0, 0);
        ask(shop);
        site(shop, 0, 1, 1, 2, 1, 0, 1);
        entry(shop, 0, 0, 1, 0, 0, -1, 1);
        shop.change(1, 0, 2, 0);
        ask(shop);
        site(shop, 0, 1, 1, 3, 2, 0, 2);
        entry(shop, 0, 0, 2, 0, 0, -1, 1);
        shop.change(1, 2, 2, 0);
        ask(shop);
        ask(shop);
        site(shop, 0, 1, 1, 5, 3, 0, 4);
        entry(shop, 0, 0, 1, 0, 0, -1, 1);
        Shop.due("table", shop.count(7), 0);
        Shop.due("voids", shop.voids(), 0);
    }

    private static void statesOfMannerTwo() {
        DelegationShop shop = probe(2);
        ask(shop);
        ask(shop);
        site(shop, 0, 1, 1, 2, 1, 0, 1);
        shop.change(1, 0, 2, 0);
        ask(shop);
        site(shop, 0, 2, 2, 3, 2, 0, 2);
        shop.change(1, 0, 3, 0);
        ask(shop);
        site(shop, 0, 2, 3, 4, 3, 0, 4);
        shop.change(1, 0, 4, 0);
        ask(shop);
        site(shop, 0, 2, 4, 5, 4, 0, 7);
        ask(shop);
        site(shop, 0, 2, 4, 6, 4, 0, 11);
        for (int k = 0; k < 4; k++) {
            entry(shop, 0, k, k + 1, 0, 0, -1, 1);
        }
        Shop.due("table", shop.count(7), 0);
        shop.change(1, 0, 5, 0);
        ask(shop);
        site(shop, 0, 3, 0, 7, 5, 0, 15);
        Shop.due("table", shop.count(7), 1);
        ask(shop);
        site(shop, 0, 3, 0, 8, 5, 0, 16);
        shop.change(1, 2, 5, 0);
        ask(shop);
        site(shop, 0, 3, 0, 9, 6, 0, 17);
        ask(shop);
        site(shop, 0, 3, 0, 10, 6, 0, 18);
        entry(shop, -1, 0, 5, 0, 0, -1, 1);
        entry(shop, -1, 1, 4, 0, 0, -1, 1);
        Shop.due("table", shop.count(7), 2);
        shop.manner(1);
        site(shop, 0, 0, 0, 0, 0, 0, 0);
        Shop.due("table", shop.count(7), 0);
        ask(shop);
        site(shop, 0, 1, 1, 1, 1, 0, 0);
    }

    /** x is object 4, y 5, z 6; y's shape is 3, z's 5; z.n is two at PLACE 0, above it y's two, above that one. */
    private static void startsOfAbove() {
        DelegationShop shop = Shop.of(2, FAMILY);
        Shop.same("run", Shop.outcome(shop, 2, 0, 0), "0 1:21");
        int z = shop.shape(6);
        Shop.due("two items", shop.item(z, 0), 2);
        site(shop, 0, 2, 2, 2, 2, 0, 1);
        entry(shop, 0, 0, z, -1, 1, 5, 1);
        entry(shop, 0, 1, z, 6, 2, 4, 1);
        restsOn(shop, 0, 0, 5);
        restsOn(shop, 0, 1, 4, 5);
        site(shop, 1, 1, 1, 1, 1, 0, 0);
        entry(shop, 1, 0, z, 0, 0, -1, 1);
        restsOn(shop, 1, 0);
        shop.change(6, 0, 0, 3);
        Shop.due("nothing rests on z", shop.voids(), 0);
        shop.change(4, 0, 0, 3);
        Shop.due("voids", shop.voids(), 1);
        gone(shop, 0, 0, z, 1, 6);
        site(shop, 0, 2, 1, 2, 2, 1, 1);
        shop.change(5, 0, 0, 3);
        gone(shop, 0, 0, z, 1, -1);
        site(shop, 0, 2, 0, 2, 2, 2, 1);
        site(shop, 1, 1, 1, 1, 1, 0, 0);
    }

    private static void notFound() {
        String text = "method m(a,b){var x=new; var y=new; var z=new; link x,y; link y,z; guard{x.n;}on 1 e{} guard{x.n;}on 1 f{} guard{above.n;}on 1 g{} lobby.q;}";
        for (int manner = 1; manner <= 2; manner++) {
            DelegationShop shop = Shop.of(manner, text);
            Shop.same("run", Shop.outcome(shop, 0, 0, 0), "1 1 1:2");
            int x = shop.shape(4);
            site(shop, 0, 1, 1, 1, 1, 0, 0);
            site(shop, 1, 1, 1, 1, 1, 0, 0);
            entry(shop, 0, 0, x, 0, -1, -1, 1);
            entry(shop, 1, 0, x, 0, -1, -1, 1);
            restsOn(shop, 0, 0, 5, 6);
            entry(shop, 2, 0, 0, -1, -1, -1, 1);
            restsOn(shop, 2, 0);
            Shop.due("no site remembers lost", shop.count(7), 0);
            shop.change(6, 0, 1, 8);
            Shop.due("voids", shop.voids(), 2);
            gone(shop, 0, 0, x, 1, 0);
            gone(shop, 1, 1, x, 1, 0);
        }
    }

    private static void setsAndNumbers() {
        DelegationShop shop = Shop.of(2, "method m(a,b){set a,n=b; set nil,n=b; set self,n=b;}");
        shop.change(0, 0, 1, 0);
        shop.change(1, 3, 0, 0);
        shop.change(3, 3, 1, 0);
        Shop.due("run", shop.run(0, 4, 9), 0);
        Shop.due("held", shop.held(0, 1, 1), 9);
        entry(shop, 0, 0, shop.shape(1), 0, 1, 0, 1);
        entry(shop, 1, 0, shop.shape(3), 0, 2, 0, 1);
        entry(shop, 2, 0, shop.shape(0), 0, 0, -1, 1);
        restsOn(shop, 0, 0, 0);
        restsOn(shop, 1, 0, 0, 1);
        // the holder's shape stays when what its slot holds becomes another value
        site(shop, 0, 1, 1, 1, 1, 0, 0);
        shop.run(0, 4, 10);
        site(shop, 0, 1, 1, 2, 1, 0, 1);
        Shop.due("held", shop.held(0, 1, 1), 10);
    }

    /** In which changes entries become void, and in which they do not. */
    private static void voidEntries() {
        DelegationShop shop = Shop.of(2, "method k(){} method m(a,b){var x=new; var y=new; link x,y; add y,n=1; x.n; self.p; }");
        shop.change(0, 0, 2, 7);
        Shop.due("run", shop.run(1, 0, 0), 0);
        Shop.due("the latest change of a shape was that of y", shop.voids(), 0);
        shop.change(5, 0, 1, 2);
        site(shop, 0, 1, 1, 1, 1, 0, 0);
        shop.change(5, 1, 1, 0);
        site(shop, 0, 1, 1, 1, 1, 0, 0);
        shop.change(4, 0, 2, 0);
        site(shop, 0, 1, 1, 1, 1, 0, 0);
        Shop.due("voids", shop.voids(), 0);
        shop.change(5, 3, 5, 0);
        site(shop, 0, 1, 0, 1, 1, 1, 0);
        Shop.due("voids", shop.voids(), 1);
        shop.change(5, 3, 5, 0);
        Shop.due("voids stay when nothing changes", shop.voids(), 1);
        shop.change(5, 0, 1, 9);
        Shop.due("voids stay when a value changes", shop.voids(), 1);
        shop.change(4, 2, 2, 0);
        Shop.due("voids of the latest change", shop.voids(), 0);
        site(shop, 1, 1, 1, 1, 1, 0, 0);
        DelegationShop drops = Shop.of(2, "method m(a,b){var x=new; var y=new; link x,y; add y,n=1; add y,p=1; add y,q=1; write x.n; drop y,n; guard{x.n;}on 1 e{} add y,n=2; write x.n;}");
        Shop.due("run", drops.run(0, 0, 0), 0);
        Shop.same("written", Shop.writtenOf(drops), " 1:1 1:2");
        site(drops, 0, 1, 0, 1, 1, 1, 0);
        site(drops, 1, 1, 0, 1, 1, 1, 0);
        site(drops, 2, 1, 1, 1, 1, 0, 0);
        Shop.due("one change, whatever shapes it makes", drops.voids(), 1);
        gone(drops, 0, 1, drops.shape(4), 1, 0);
    }

    /** Site 0 meets six shapes that have base (object 4) for a parent and is MANY; site 1 meets the last two. */
    private static void orderOfTheGone() {
        DelegationShop shop = Shop.of(2, "method m(a,b){var base=new; add base,n=5; var i=0; while i<6 {var o=new; link o,base; link o,o; o.n;"
            + " if i>3 {o.n;} i=i+1;}}");
        Shop.due("run", shop.run(0, 0, 0), 0);
        site(shop, 0, 3, 0, 6, 6, 0, 11);
        site(shop, 1, 2, 2, 2, 2, 0, 1);
        Shop.due("table", shop.count(7), 2);
        restsOn(shop, -1, 0, 4);
        restsOn(shop, -1, 1, 4);
        shop.change(4, 0, 0, 1);
        Shop.due("voids", shop.voids(), 4);
        gone(shop, 0, 1, shop.shape(9), 1, 0);
        gone(shop, 1, 1, shop.shape(10), 1, 0);
        gone(shop, 2, -1, shop.shape(9), 1, 0);
        gone(shop, 3, -1, shop.shape(10), 1, 0);
        site(shop, 0, 3, 0, 6, 6, 0, 11);
        site(shop, 1, 2, 0, 2, 2, 2, 1);
        Shop.due("table", shop.count(7), 0);
        shop.forget();
        Shop.due("voids", shop.voids(), 4);
        gone(shop, 3, -1, shop.shape(10), 1, 0);
    }

    private static void oneWithoutAnEntry() {
        for (int manner = 1; manner <= 2; manner++) {
            DelegationShop shop = Shop.of(manner, "method m(a,b){answer a.n;} method k(){self.p;}");
            shop.change(1, 3, 0, 0);
            shop.change(0, 0, 1, 3);
            shop.run(0, 1, 1);
            shop.change(0, 0, 2, 3);
            site(shop, 0, 1, 0, 1, 1, 1, 0);
            shop.run(0, 1, 1);
            site(shop, 0, 1, 1, 2, 2, 1, 0);
            entry(shop, 0, 0, shop.shape(1), 0, 1, 0, 1);
            shop.change(0, 2, 2, 3);
            shop.change(1, 0, 2, 3);
            shop.run(0, 1, 1);
            site(shop, 0, 1, 1, 3, 3, 2, 0);
        }
    }

    private static void severalWithoutAnEntry() {
        DelegationShop shop = Shop.of(2, "method m(a,b){answer a.n;} method k(){self.p; self.q; self.r; self.s;}");
        shop.change(1, 3, 0, 0);
        shop.change(0, 0, 1, 3);
        for (int x = 2; x <= 4; x++) {
            shop.run(0, 1, 1);
            shop.change(1, 0, x, 0);
        }
        site(shop, 0, 2, 3, 3, 3, 0, 3);
        shop.change(0, 0, 2, 0);
        site(shop, 0, 2, 0, 3, 3, 3, 3);
        Shop.due("voids", shop.voids(), 3);
        for (int k = 0; k < 3; k++) {
            gone(shop, k, 0, k == 0 ? shop.next(0, 2, 0) : shop.next(shop.gone(k - 1, 1), 0, k + 1), 1, 0);
        }
        shop.run(0, 1, 1);
        site(shop, 0, 2, 1, 4, 4, 3, 3);
        shop.run(0, 1, 1);
        site(shop, 0, 2, 1, 5, 4, 3, 4);
    }

    private static final String CHAIN = "method one(a,b){var p=lobby; var o=nil; var i=0; while i<a {o=new; link o,p; add o,n=p; o.n; p=o; i=i+1;} add lobby,top=o;}"
        + " method two(a,b){var o=lobby.top; var i=0; while i<a {o=o.n; i=i+1;}}";

    private static void theTable() {
        for (int many = 131; many <= 134; many++) {
            DelegationShop shop = Shop.of(2, CHAIN);
            Shop.due("run", shop.run(0, many, 0), 0);
            Shop.due("table of " + many, shop.count(7), many <= 132 ? many - 4 : many - 132);
            Shop.due("those that go first are not void", shop.voids() + shop.site(0, 6), 0);
            entry(shop, -1, 0, shop.shape(many <= 132 ? 8 : 136), 0, 0, -1, 1);
        }
        DelegationShop shop = Shop.of(2, CHAIN);
        shop.run(0, 132, 0);
        Shop.due("table", shop.count(7), 128);
        Shop.due("run", shop.run(1, 5, 0), 0);
        site(shop, 2, 3, 0, 5, 5, 0, 10);
        Shop.due("what is there already does not come", shop.count(7), 128);
        entry(shop, -1, 0, shop.shape(8), 0, 0, -1, 1);
        entry(shop, -1, 127, shop.shape(135), 0, 0, -1, 1);
        Shop.due("run", shop.run(1, 5, 0), 0);
        site(shop, 2, 3, 0, 10, 5, 0, 15);
        Shop.due("astray", shop.astray(), 0);
        // the site is MANY and finds what another brought; the names tell entries of one shape apart
        DelegationShop two = Shop.of(2, "method m(a,b){var i=0; var p=lobby; while i<6 {var o=new; link o,p; add o,n=1; add o,q=2; o.n; write o.n; write o.q; p=o; i=i+1;}}");
        Shop.due("run", two.run(0, 0, 0), 0);
        site(two, 0, 3, 0, 6, 6, 0, 11);
        site(two, 1, 3, 0, 6, 5, 0, 11);
        site(two, 2, 3, 0, 6, 6, 0, 11);
        Shop.due("table", two.count(7), 4);
        Shop.same("written", Shop.writtenOf(two), " 1:1 1:2".repeat(6));
        entry(two, -1, 1, two.shape(8), 0, 0, -1, 2);
    }

    private static void whatRests() {
        // the way of 4 is 5, 7, 6; n stands in 7 and 6
        DelegationShop shop = Shop.of(2, "method one(){} method up(){above.n;} method m(a,b){var o=new; var p=new; var q=new; var r=new; link o,p; link o,q; link p,r;"
            + " give r,n,up; give q,n,one; o.n; guard{o.x;}on 0 e{} q.n; guard{q.x;}on 0 f{}}");
        Shop.due("run", shop.run(2, 0, 0), 0);
        entry(shop, 1, 0, shop.shape(4), 0, 2, 7, 1);
        restsOn(shop, 1, 0, 5, 7);
        entry(shop, 0, 0, shop.shape(4), 8, 3, 6, 1);
        restsOn(shop, 0, 0, 5, 7, 6);
        restsOn(shop, 2, 0, 5, 7, 6);
        restsOn(shop, 3, 0);
        restsOn(shop, 4, 0);
        // more than sixty-four objects
        DelegationShop chain = Shop.of(2, "method m(a,b){var o=new; var i=0; while i<195 {var p=new; link p,o; o=p; i=i+1;} guard{o.n;}on 1 e{}}");
        chain.run(0, 0, 0);
        for (int o = 0; o < 200; o++) {
            Shop.due("rests(0, 0, " + o + ")", chain.rests(0, 0, o) ? 1 : 0, o >= 4 && o < 199 ? 1 : 0);
        }
        chain.change(199, 0, 1, 0);
        Shop.due("voids", chain.voids(), 0);
        chain.change(130, 0, 1, 0);
        Shop.due("voids", chain.voids(), 1);
    }

    private static void wrongNumbers() {
        DelegationShop shop = Shop.of(2, FAMILY);
        shop.run(2, 0, 0);
        shop.change(4, 0, 0, 3);
        int[] far = {-2, 9, Integer.MIN_VALUE, Integer.MAX_VALUE};
        for (int n : far) {
            Shop.throwing("site(" + n + ")", IndexOutOfBoundsException.class, () -> shop.site(n, 99));
            Shop.throwing("entry(" + n + ")", IndexOutOfBoundsException.class, () -> shop.entry(n, 0, 99));
            Shop.throwing("entry(0, " + n + ")", IndexOutOfBoundsException.class, () -> shop.entry(0, n, 99));
            Shop.throwing("entry(-1, " + n + ")", IndexOutOfBoundsException.class, () -> shop.entry(-1, n, 0));
            Shop.throwing("rests(" + n + ")", IndexOutOfBoundsException.class, () -> shop.rests(n, 0, 0) ? 1 : 0);
            Shop.throwing("rests(0, " + n + ")", IndexOutOfBoundsException.class, () -> shop.rests(0, n, 0) ? 1 : 0);
            Shop.throwing("rests(0, 0, " + n + ")", IndexOutOfBoundsException.class, () -> shop.rests(0, 0, n) ? 1 : 0);
            Shop.throwing("gone(" + n + ")", IndexOutOfBoundsException.class, () -> shop.gone(n, 99));
            Shop.throwing("site(0, " + n + ")", IllegalArgumentException.class, () -> shop.site(0, n));
            Shop.throwing("entry(0, 0, " + n + ")", IllegalArgumentException.class, () -> shop.entry(0, 0, n));
            Shop.throwing("gone(0, " + n + ")", IllegalArgumentException.class, () -> shop.gone(0, n));
        }
        Shop.throwing("site(-1)", IndexOutOfBoundsException.class, () -> shop.site(-1, 0));
        Shop.throwing("site(2)", IndexOutOfBoundsException.class, () -> shop.site(2, 0));
        Shop.throwing("entry(0, 1)", IndexOutOfBoundsException.class, () -> shop.entry(0, 1, 0));
        Shop.throwing("entry(0, 0, 5)", IllegalArgumentException.class, () -> shop.entry(0, 0, 5));
        Shop.throwing("entry(-1, 0)", IndexOutOfBoundsException.class, () -> shop.entry(-1, 0, 0));
        Shop.throwing("rests(0, 0, 7)", IndexOutOfBoundsException.class, () -> shop.rests(0, 0, 7) ? 1 : 0);
        Shop.throwing("gone(1)", IndexOutOfBoundsException.class, () -> shop.gone(1, 0));
        Shop.throwing("gone(0, 4)", IllegalArgumentException.class, () -> shop.gone(0, 4));
        Shop.throwing("gone(0, -1)", IllegalArgumentException.class, () -> shop.gone(0, -1));
        Shop.due("voids", shop.voids(), 1);
    }
}
