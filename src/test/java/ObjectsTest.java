/** Promises 13 to 21: changes from outside, and what is told of names, objects, shapes and ways. */
public final class ObjectsTest {
    private static final String TEXT = "method k(){answer 1;} method m(a,b){self.alpha; set self,be=1; add self,lost=[]; give self,abcdefgh,k;"
        + " drop self,z; above.alpha; var o=new; o=clone(o); [];}";
    private static final int ALPHA = 1;
    private static final int BE = 2;
    private static final int LONG = 3;
    private static final int Z = 4;

    public static void main(String[] args) {
        withoutText();
        changesThatFit();
        changesThatDoNot();
        wrongChanges();
        fullRows();
        fullShapes();
        counts();
        nameBytes();
        shapesAndItems();
        dropMakesTheShorterFirst();
        heldValues();
        ways();
        looks();
        Shop.finish();
    }

    private static void withoutText() {
        DelegationShop shop = new DelegationShop();
        Shop.throwing("change", IllegalStateException.class, () -> shop.change(0, 9, 0, 0));
        Shop.throwing("count", IllegalStateException.class, () -> shop.count(8));
        Shop.throwing("nameByte", IllegalStateException.class, () -> shop.nameByte(0, 0));
        Shop.throwing("shape", IllegalStateException.class, () -> shop.shape(0));
        Shop.throwing("item", IllegalStateException.class, () -> shop.item(0, -1));
        Shop.throwing("next", IllegalStateException.class, () -> shop.next(0, 0, 0));
        Shop.throwing("held", IllegalStateException.class, () -> shop.held(0, 0, 9));
        Shop.throwing("way", IllegalStateException.class, () -> shop.way(0, 1));
        Shop.throwing("look", IllegalStateException.class, () -> shop.look(0, 0, -2));
    }

    private static void changesThatFit() {
        DelegationShop shop = Shop.of(2, TEXT);
        Shop.due("add", shop.change(1, 0, BE, Long.MIN_VALUE), 0);
        Shop.due("held", shop.held(1, BE, 0), 1);
        Shop.due("held", shop.held(1, BE, 1), Long.MIN_VALUE);
        Shop.due("add again", shop.change(1, 0, BE, 5), 0);
        Shop.due("held", shop.held(1, BE, 1), 5);
        Shop.due("shapes", shop.count(5), 2);
        Shop.due("give", shop.change(1, 1, ALPHA, 1), 0);
        Shop.due("give again", shop.change(1, 1, ALPHA, 0), 0);
        Shop.due("held", shop.held(1, ALPHA, 1), 0);
        Shop.due("link itself", shop.change(1, 3, 1, 77), 0);
        Shop.due("link", shop.change(1, 3, 0, -1), 0);
        Shop.due("items", shop.item(shop.shape(1), 0), 4);
        Shop.due("drop", shop.change(1, 2, BE, 0), 0);
        Shop.due("unlink", shop.change(1, 4, 1, 0), 0);
        Shop.due("items", shop.item(shop.shape(1), 0), 2);
        Shop.due("held", shop.held(1, ALPHA, 0), 4);
        Shop.due("way", shop.way(1, 1), 0);
        Shop.due("steps of no run", shop.latest(2), 0);
    }

    private static void changesThatDoNot() {
        DelegationShop shop = Shop.of(2, TEXT);
        shop.change(0, 0, BE, 5);
        shop.change(0, 1, ALPHA, 0);
        shop.change(0, 3, 2, 0);
        int shape = shop.shape(0);
        int shapes = shop.count(5);
        Shop.due("add of a method slot", shop.change(0, 0, ALPHA, 1), 7);
        Shop.due("give of a value slot", shop.change(0, 1, BE, 1), 7);
        Shop.due("drop of none", shop.change(0, 2, Z, 0), 7);
        Shop.due("link of one that is there", shop.change(0, 3, 2, 0), 7);
        Shop.due("unlink of none", shop.change(0, 4, 3, 0), 7);
        Shop.due("shape", shop.shape(0), shape);
        Shop.due("shapes", shop.count(5), shapes);
        Shop.due("held", shop.held(0, BE, 1), 5);
        Shop.due("failures", shop.latest(4), 0);
    }

    private static void wrongChanges() {
        DelegationShop shop = Shop.of(1, TEXT);
        int[] far = {-1, Integer.MIN_VALUE, Integer.MAX_VALUE};
        for (int n : far) {
            Shop.throwing("op " + n, IllegalArgumentException.class, () -> shop.change(99, n, 99, 0));
            for (int op = 0; op < 5; op++) {
                int d = op;
                Shop.throwing("object " + n, IndexOutOfBoundsException.class, () -> shop.change(n, d, 0, 0));
                Shop.throwing("x " + n, IndexOutOfBoundsException.class, () -> shop.change(0, d, n, 0));
            }
        }
        Shop.throwing("op 5", IllegalArgumentException.class, () -> shop.change(0, 5, 0, 0));
        Shop.throwing("object 4", IndexOutOfBoundsException.class, () -> shop.change(4, 0, 0, 0));
        Shop.throwing("NAME 5", IndexOutOfBoundsException.class, () -> shop.change(0, 0, 5, 0));
        Shop.throwing("NAME 5", IndexOutOfBoundsException.class, () -> shop.change(0, 2, 5, 0));
        Shop.throwing("parent 4", IndexOutOfBoundsException.class, () -> shop.change(0, 3, 4, 0));
        Shop.throwing("parent 4", IndexOutOfBoundsException.class, () -> shop.change(0, 4, 4, 0));
        for (long v : new long[] {-1, 2, Long.MIN_VALUE, Long.MAX_VALUE, 1L << 32, (1L << 32) + 1}) {
            Shop.throwing("method " + v, IndexOutOfBoundsException.class, () -> shop.change(0, 1, 0, v));
        }
        Shop.due("shapes", shop.count(5), 1);
        Shop.due("add of any number", shop.change(0, 0, 4, 1L << 40), 0);
    }

    private static void fullRows() {
        DelegationShop shop = Shop.of(0, TEXT);
        for (int x = 0; x <= Z; x++) {
            Shop.due("add", shop.change(0, 0, x, x), 0);
        }
        for (int o = 0; o < 4; o++) {
            Shop.due("link", shop.change(0, 3, o, 0), 0);
        }
        Shop.due("items", shop.item(shop.shape(0), 0), 9);
        DelegationShop more = Shop.of(0, "method m(a,b){var i=0; while i<9 {link lobby,new; i=i+1;} self.x; self.y; self.z; self.u;}");
        more.run(0, 0, 0);
        Shop.due("ten", more.change(0, 0, 1, 1), 0);
        Shop.due("eleven", more.change(0, 3, 0, 1), 0);
        Shop.due("twelve", more.change(0, 0, 3, 1), 0);
        Shop.due("thirteen", more.change(0, 0, 4, 1), 8);
        Shop.due("thirteen", more.change(0, 3, 3, 1), 8);
        Shop.due("thirteen", more.change(0, 1, 2, 0), 8);
        Shop.due("unfit first", more.change(0, 1, 3, 0), 7);
        Shop.due("one that is there", more.change(0, 0, 3, 9), 0);
        Shop.due("items", more.item(more.shape(0), 0), 12);
        Shop.due("next of twelve", more.next(more.shape(0), 0, 4), -1);
    }

    private static void fullShapes() {
        // 12 shapes of o, then as many as fit by shifting: each drop of the first item makes new ones
        StringBuilder text = new StringBuilder("method m(a,b){var o=new;");
        for (int i = 0; i < 12; i++) {
            text.append("add o,n").append((char) ('a' + i)).append("=").append(i).append(";");
        }
        text.append("} method go(a,b){");
        for (int i = 0; i < 60; i++) {
            text.append("self.m").append((char) ('a' + i / 26)).append((char) ('a' + i % 26)).append(";");
        }
        DelegationShop shop = Shop.of(2, text + "}");
        shop.run(0, 0, 0);
        Shop.due("shapes", shop.count(5), 13);
        int made = 13;
        for (int n = 0; n < 35; n++) {
            shop.change(4, 2, 1 + n, 0);
            made += 11;
            Shop.due("shapes behind drop " + n, shop.count(5), made);
            Shop.due("add", shop.change(4, 0, 13 + n, n), 0);
            made++;
            if (made + 12 > 400) {
                break;
            }
        }
        Shop.due("shapes", shop.count(5), made);
        int shape = shop.shape(4);
        int left = 400 - made;
        for (int o = 0; o < left; o++) {
            Shop.due("add", shop.change(0, 0, 50 + o, 0), 0);
        }
        Shop.due("shapes", shop.count(5), 400);
        Shop.due("a drop that makes shapes", shop.change(4, 2, shop.item(shape, 2), 0), 8);
        Shop.due("the shape stays", shop.shape(4), shape);
        Shop.due("a drop of the last item", shop.change(4, 2, shop.item(shape, 24), 0), 0);
        Shop.due("an add of a new item", shop.change(4, 0, 60, 0), 8);
        Shop.due("and back", shop.change(4, 0, shop.item(shape, 24), 5), 0);
        Shop.due("the shape is the same", shop.shape(4), shape);
        Shop.due("the value is held", shop.held(4, shop.item(shape, 24), 1), 5);
        Shop.due("shapes", shop.count(5), 400);
    }

    private static void counts() {
        DelegationShop shop = Shop.of(2, TEXT);
        int[] want = {2, 5, 3, 2, 4, 1, 0, 0, 2};
        for (int what = 0; what <= 8; what++) {
            Shop.due("count(" + what + ")", shop.count(what), want[what]);
        }
        for (int what : new int[] {-1, 9, Integer.MIN_VALUE, Integer.MAX_VALUE}) {
            Shop.throwing("count(" + what + ")", IllegalArgumentException.class, () -> shop.count(what));
        }
        shop.change(0, 1, ALPHA, 0);
        shop.change(0, 0, BE, 0);
        shop.change(0, 0, Z, 0);
        shop.run(1, 0, 0);
        Shop.due("left by the above", shop.failure(0, 0), 1);
        Shop.due("blocks", shop.count(6), 1);
        shop.run(1, 0, 0);
        Shop.due("blocks stay", shop.count(6), 2);
        Shop.due("objects", shop.count(4), 4);
    }

    private static void nameBytes() {
        DelegationShop shop = Shop.of(0, TEXT);
        String[] names = {"lost", "alpha", "be", "abcdefgh", "z"};
        for (int x = 0; x < names.length; x++) {
            for (int k = -2; k < 11; k++) {
                Shop.due("nameByte(" + x + ", " + k + ")", shop.nameByte(x, k), k >= 0 && k < names[x].length() ? names[x].charAt(k) : 0);
            }
            Shop.due("far", shop.nameByte(x, Integer.MAX_VALUE) + shop.nameByte(x, Integer.MIN_VALUE), 0);
        }
        for (int x : new int[] {-1, 5, Integer.MIN_VALUE, Integer.MAX_VALUE}) {
            Shop.throwing("nameByte(" + x + ")", IndexOutOfBoundsException.class, () -> shop.nameByte(x, 0));
        }
    }

    private static void shapesAndItems() {
        DelegationShop shop = Shop.of(0, TEXT);
        shop.change(0, 0, BE, 0);
        shop.change(0, 1, ALPHA, 0);
        shop.change(0, 3, 3, 0);
        shop.change(1, 1, BE, 0);
        shop.change(2, 0, BE, 9);
        Shop.due("shape(0)", shop.shape(0), 3);
        Shop.due("shape(1): of another kind", shop.shape(1), 4);
        Shop.due("shape(2)", shop.shape(2), 1);
        Shop.due("shape(3)", shop.shape(3), 0);
        int[] want = {3, 0, BE, 1, ALPHA, 2, 3, -1, -1};
        for (int what = 0; what < want.length; what++) {
            Shop.due("item(3, " + what + ")", shop.item(3, what), want[what]);
        }
        Shop.due("item of none", shop.item(0, 1), -1);
        Shop.due("item(0, 0)", shop.item(0, 0), 0);
        for (int what : new int[] {25, 26, 27, 100000, Integer.MAX_VALUE - 1, Integer.MAX_VALUE}) {
            Shop.due("item(3, " + what + ")", shop.item(3, what), -1);
        }
        Shop.throwing("item(3, -1)", IllegalArgumentException.class, () -> shop.item(3, -1));
        Shop.throwing("item(3, MIN)", IllegalArgumentException.class, () -> shop.item(3, Integer.MIN_VALUE));
        Shop.due("next(0, 0, BE)", shop.next(0, 0, BE), 1);
        Shop.due("next(0, 1, BE)", shop.next(0, 1, BE), 4);
        Shop.due("next(0, 2, BE)", shop.next(0, 2, BE), -1);
        Shop.due("next(1, 1, ALPHA)", shop.next(1, 1, ALPHA), 2);
        Shop.due("next(2, 2, 3)", shop.next(2, 2, 3), 3);
        Shop.due("next(3, 2, 3)", shop.next(3, 2, 3), -1);
        for (int far : new int[] {-1, 3, Integer.MIN_VALUE, Integer.MAX_VALUE}) {
            Shop.due("next of a strange kind", shop.next(0, far, BE), -1);
            Shop.due("next of a strange x", shop.next(0, 0, far), -1);
        }
        for (int s : new int[] {-1, 5, Integer.MIN_VALUE, Integer.MAX_VALUE}) {
            Shop.throwing("item of shape " + s, IndexOutOfBoundsException.class, () -> shop.item(s, -1));
            Shop.throwing("next of shape " + s, IndexOutOfBoundsException.class, () -> shop.next(s, 0, 0));
            Shop.throwing("shape of object " + s, IndexOutOfBoundsException.class, () -> shop.shape(s));
        }
    }

    private static void dropMakesTheShorterFirst() {
        DelegationShop shop = Shop.of(0, TEXT);
        for (int x = 1; x <= 4; x++) {
            shop.change(0, 0, x, x * 10);
        }
        Shop.due("shapes", shop.count(5), 5);
        Shop.due("drop", shop.change(0, 2, 2, 0), 0);
        Shop.due("shapes", shop.count(5), 7);
        Shop.due("the shorter first", shop.next(1, 0, 3), 5);
        Shop.due("then the longer", shop.next(5, 0, 4), 6);
        Shop.due("shape", shop.shape(0), 6);
        Shop.due("held", shop.held(0, 3, 1) + shop.held(0, 4, 1) * 100, 4030);
        Shop.due("drop of the last", shop.change(0, 2, 4, 0), 0);
        Shop.due("shape", shop.shape(0), 5);
        Shop.due("drop of the first", shop.change(0, 2, 1, 0), 0);
        Shop.due("a row of NAME 3 alone", shop.shape(0), 7);
        Shop.due("its place", shop.next(0, 0, 3), 7);
        Shop.due("drop of the only one", shop.change(0, 2, 3, 0), 0);
        Shop.due("shape", shop.shape(0), 0);
    }

    private static void heldValues() {
        DelegationShop shop = Shop.of(0, "method k(){} method m(a,b){add self,p=nil; add self,q=a; add self,r=self; add self,s=[]; give self,t,m; add self,u=[];}");
        shop.run(1, -8, 0);
        int[][] want = {{0, 0}, {1, -8}, {2, 0}, {3, 0}, {4, 1}, {3, 1}};
        for (int x = 1; x <= 6; x++) {
            Shop.due("held(0, " + x + ", 0)", shop.held(0, x, 0), want[x - 1][0]);
            Shop.due("held(0, " + x + ", 1)", shop.held(0, x, 1), want[x - 1][1]);
        }
        Shop.due("held of none", shop.held(0, 0, 0), -1);
        Shop.due("held of none", shop.held(0, 0, 1), 0);
        shop.change(1, 3, 0, 0);
        Shop.due("not of its parents", shop.held(1, 2, 0), -1);
        for (int far : new int[] {-1, 7, Integer.MIN_VALUE, Integer.MAX_VALUE}) {
            Shop.throwing("object " + far, IndexOutOfBoundsException.class, () -> shop.held(far, 0, 9));
            Shop.throwing("NAME " + far, IndexOutOfBoundsException.class, () -> shop.held(0, far, 9));
            Shop.throwing("what " + far, IllegalArgumentException.class, () -> shop.held(0, 0, far));
        }
        Shop.throwing("what 2", IllegalArgumentException.class, () -> shop.held(0, 0, 2));
    }

    /** 4 has the parents 5 and 6, 5 has 7 and 4, 6 has 7 and 0. */
    private static DelegationShop family() {
        DelegationShop shop = Shop.of(0, "method m(a,b){new; new; new; new; self.x; self.y; self.z;}");
        shop.run(0, 0, 0);
        int[][] links = {{4, 5}, {4, 6}, {5, 7}, {5, 4}, {6, 7}, {6, 0}};
        for (int[] link : links) {
            Shop.due("link", shop.change(link[0], 3, link[1], 0), 0);
        }
        return shop;
    }

    private static void way(DelegationShop shop, int o, int... want) {
        for (int k = 1; k <= want.length; k++) {
            Shop.due("way(" + o + ", " + k + ")", shop.way(o, k), want[k - 1]);
        }
        for (int k : new int[] {want.length + 1, 0, -1, 201, Integer.MIN_VALUE, Integer.MAX_VALUE}) {
            Shop.due("way(" + o + ", " + k + ")", shop.way(o, k), -1);
        }
    }

    private static void ways() {
        DelegationShop shop = family();
        way(shop, 4, 5, 7, 4, 6, 0);
        way(shop, 5, 7, 4, 5, 6, 0);
        way(shop, 6, 7, 0);
        way(shop, 7);
        shop.change(7, 3, 7, 0);
        way(shop, 7, 7);
        shop.change(7, 0, 1, 0);
        shop.change(7, 3, 3, 0);
        way(shop, 6, 7, 3, 0);
        for (int o : new int[] {-1, 8, Integer.MIN_VALUE, Integer.MAX_VALUE}) {
            Shop.throwing("way of " + o, IndexOutOfBoundsException.class, () -> shop.way(o, 1));
        }
        DelegationShop chain = Shop.of(0, "method m(a,b){var o=new; var i=0; while i<195 {var p=new; link o,p; o=p; i=i+1;}} method n(a,b){self.x;}");
        chain.run(0, 0, 0);
        Shop.due("objects", chain.count(4), 200);
        Shop.due("a long way", chain.way(4, 195), 199);
        Shop.due("its end", chain.way(4, 196), -1);
        chain.change(199, 3, 4, 0);
        Shop.due("round about", chain.way(4, 196), 4);
        chain.change(199, 0, 1, 0);
        Shop.due("look", chain.look(4, 1, 0), 195);
        chain.change(199, 4, 4, 0);
        for (int o = 0; o < 4; o++) {
            chain.change(o == 0 ? 199 : o - 1, 3, o, 0);
        }
        chain.change(3, 3, 4, 0);
        Shop.due("a way of all objects", chain.way(4, 199), 3);
        Shop.due("its last", chain.way(4, 200), 4);
        Shop.due("none behind", chain.way(4, 201), -1);
        chain.change(3, 0, 0, 0);
        Shop.due("look", chain.look(4, 0, 0), 199);
        Shop.due("look behind it", chain.look(4, 0, 4), -1);
        Shop.due("look behind object 2", chain.look(4, 0, 3), 199);
        Shop.due("look", chain.look(199, 1, -1), 200);
    }

    private static void looks() {
        DelegationShop shop = family();
        shop.change(4, 0, 1, 0);
        shop.change(7, 1, 1, 0);
        shop.change(0, 0, 1, 0);
        // the way of 4 is 5, 7, 4, 6, 0
        Shop.due("look(4, 1, 0)", shop.look(4, 1, 0), 0);
        Shop.due("look(4, 1, -1)", shop.look(4, 1, -1), 2);
        Shop.due("behind 5", shop.look(4, 1, 6), 2);
        Shop.due("behind 7", shop.look(4, 1, 8), 3);
        Shop.due("behind 4", shop.look(4, 1, 5), 5);
        Shop.due("behind 6", shop.look(4, 1, 7), 5);
        Shop.due("behind 0", shop.look(4, 1, 1), -1);
        Shop.due("behind 1, which is not in the way", shop.look(4, 1, 2), -1);
        Shop.due("another name", shop.look(4, 2, 0), -1);
        Shop.due("look(6, 1, 0)", shop.look(6, 1, 0), 1);
        Shop.due("look(6, 1, 8)", shop.look(6, 1, 8), 2);
        Shop.due("look(0, 1, -1)", shop.look(0, 1, -1), -1);
        Shop.due("lost", shop.look(4, 0, 0), -1);
        for (int far : new int[] {-1, 8, Integer.MIN_VALUE, Integer.MAX_VALUE}) {
            Shop.throwing("look of object " + far, IndexOutOfBoundsException.class, () -> shop.look(far, 0, -9));
            Shop.throwing("look of NAME " + far, IndexOutOfBoundsException.class, () -> shop.look(0, far, -9));
        }
        for (int start : new int[] {-2, 9, Integer.MIN_VALUE, Integer.MAX_VALUE}) {
            Shop.throwing("look from " + start, IllegalArgumentException.class, () -> shop.look(4, 1, start));
        }
        Shop.due("behind the last object", shop.look(4, 1, 8), 3);
    }
}
