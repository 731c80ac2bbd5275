/**
 * The sentences of sections 1 and 2 of the document that name a boundary case, one after another: each method's comment
 * is the sentence whose case it tries.
 */
public final class EdgesOfObjectsTest {
    private static final long MIN = Long.MIN_VALUE;
    private static final long MAX = Long.MAX_VALUE;

    public static void main(String[] args) {
        numbersOf64Bits();
        whatIsTrue();
        fourObjectsBehindLoad();
        twoHundredObjects();
        whatStandsForObjects();
        twelveItems();
        aParentOfItself();
        nothingTwiceInARow();
        numbersOfNames();
        sameShapes();
        goingItems();
        goingItemsWhoseShapesAreThere();
        fourHundredShapes();
        waysOfFewAndOfAll();
        starts();
        Shop.finish();
    }

    private static void due(String statements, String want) {
        Shop.same(statements, Shop.doing(statements, 7, 3), want);
    }

    private static void due(String methods, int many, String statements, String want) {
        Shop.same(methods + statements, Shop.doing(methods, many, statements, 7, 3), want);
    }

    /** VALUES are NIL, NUMBERS (64 bits with a sign), OBJECTS and BLOCKS. */
    private static void numbersOf64Bits() {
        for (long n : new long[] {MIN, MIN + 1, -1, 0, 1, 1L << 31, 1L << 32, MAX}) {
            DelegationShop shop = Shop.of(2, "method m(a,b){write b; add self,n=a; fail 20,self.n;} method k(a,b){answer self.n;}");
            Shop.same("a failure with " + n, Shop.outcome(shop, 0, n, n), "1 20 1:" + n);
            Shop.due("written", shop.written(0, 1), n);
            Shop.due("held", shop.held(0, 1, 1), n);
            Shop.same("an answer of " + n, Shop.outcome(shop, 1, 0, 0), "0 1:" + n);
            Shop.due("change", shop.change(1, 0, 1, n), 0);
            Shop.due("held", shop.held(1, 1, 1), n);
        }
        due("answer 999999999*999999999*10;", "1 4 0:0");
        due("answer 999999999*999999999*9;", "0 1:8999999982000000009");
    }

    /** All values but NIL and the number 0 are TRUE. */
    private static void whatIsTrue() {
        String[] isTrue = {"1", "-1", "lobby", "new", "[]", "(0-1)", "(nil==nil)"};
        String[] isNot = {"nil", "0", "-0", "(1-1)", "(nil==0)", "[]!()"};
        for (String exp : isTrue) {
            due("if " + exp + " {write 1;} else {write 2;} while " + exp + " {answer 3;} answer 4;", "0 1:3 1:1");
        }
        for (String exp : isNot) {
            due("if " + exp + " {write 1;} else {write 2;} while " + exp + " {answer 3;} answer 4;", "0 1:4 1:2");
        }
        for (long n : new long[] {MIN, MAX, 1L << 32, 0}) {
            Shop.same("truth of " + n, Shop.doing("if a {answer 1;} answer 2;", n, 0), n == 0 ? "0 1:2" : "0 1:1");
        }
    }

    /** Behind load() there are OBJECTS 0 (the LOBBY), 1, 2 and 3, with nothing in them. */
    private static void fourObjectsBehindLoad() {
        String text = "method m(a,b){add lobby,n=1; link lobby,new; add 5.p,n=1; }";
        DelegationShop shop = Shop.of(0, text);
        for (int n = 0; n < 2; n++) {
            Shop.due("objects", shop.count(4), 4);
            Shop.due("shapes", shop.count(5), 1);
            Shop.due("items of shape 0", shop.item(0, 0), 0);
            for (int o = 0; o < 4; o++) {
                Shop.due("shape of " + o, shop.shape(o), 0);
                Shop.due("held by " + o, shop.held(o, 1, 0), -1);
                Shop.due("way of " + o, shop.way(o, 1), -1);
            }
            shop.run(0, 0, 0);
            Shop.due("objects", shop.count(4), 5);
            Shop.due("load() again", Shop.load(shop, text), 1);
        }
    }

    /** At most 200 are made in all. (new, clone that would be one too many: FAILURE 8.) */
    private static void twoHundredObjects() {
        DelegationShop shop = Shop.of(0, "method m(a,b){while a {if b {new;} else {clone(lobby);} a=a-1;} answer 5;}");
        Shop.same("100 objects", Shop.outcome(shop, 0, 100, 0), "0 1:5");
        Shop.same("195 objects", Shop.outcome(shop, 0, 95, 1), "0 1:5");
        Shop.due("objects", shop.count(4), 199);
        Shop.same("the 200th", Shop.outcome(shop, 0, 1, 0), "0 1:5");
        Shop.due("objects", shop.count(4), 200);
        Shop.same("a 201st by clone", Shop.outcome(shop, 0, 1, 0), "1 8 0:0");
        Shop.same("a 201st by new", Shop.outcome(shop, 0, 1, 1), "1 8 0:0");
        Shop.due("objects", shop.count(4), 200);
        Shop.due("the last has a shape", shop.shape(199), 0);
        Shop.throwing("the shape of none", IndexOutOfBoundsException.class, () -> shop.shape(200));
        Shop.load(shop, "method m(a,b){while a {new; a=a-1;} answer 6;}");
        Shop.same("196 objects", Shop.outcome(shop, 0, 196, 0), "0 1:6");
        Shop.same("the 201st", Shop.outcome(shop, 0, 1, 0), "1 8 0:0");
        due("var i=0; while i<195 {new; i=i+1;} write new; guard {new;} on 8 e {write e;} guard {clone(nil);} on 6 f {}", "0 0:0 2:199 0:0");
    }

    /** In look-ups a number STANDS FOR object 1, a block for object 2, NIL for object 3; an object for itself. */
    private static void whatStandsForObjects() {
        String text = "method m(a,b){write a.n; write 0.n; write [].n; write nil.n; write lobby.n; set 9,n=b+1; set [1;],n=b+2; set nil,n=b+3;"
            + " set self,n=b; write (0-5).n; }";
        for (int manner = 0; manner <= 2; manner++) {
            DelegationShop shop = Shop.of(manner, text);
            for (int o = 0; o < 4; o++) {
                shop.change(o, 0, 1, 10 + o);
            }
            for (long number : new long[] {0, 1, 3, MIN, MAX}) {
                for (int o = 0; o < 4; o++) {
                    shop.change(o, 0, 1, 10 + o);
                }
                Shop.due("run", shop.run(0, number, 40), 0);
                Shop.same("written", Shop.writtenOf(shop), " 1:11 1:11 1:12 1:13 1:10 1:41");
                for (int o = 0; o < 4; o++) {
                    Shop.due("held by " + o, shop.held(o, 1, 1), 40 + o);
                }
            }
        }
        due("add 1,n=1;", "1 6 0:0");
        due("write 5.n;", "1 1 1:1");
    }

    /** An object is a row of ITEMS, at most 12. (A 13th item: FAILURE 8.) */
    private static void twelveItems() {
        StringBuilder names = new StringBuilder();
        for (int x = 1; x <= 14; x++) {
            names.append("self.n").append((char) ('a' + x)).append(";");
        }
        for (int links = 0; links <= 4; links += 2) {
            for (int gives = 0; gives <= 4; gives += 2) {
                DelegationShop shop = Shop.of(1, "method m(a,b){" + names + "} method k(){}");
                for (int n = 0; n < 12; n++) {
                    Shop.due("the " + (n + 1) + "th item", n < links ? shop.change(0, 3, n, 0) : shop.change(0, n < links + gives ? 1 : 0, n, 1), 0);
                }
                Shop.due("items", shop.item(shop.shape(0), 0), 12);
                int shapes = shop.count(5);
                Shop.due("a 13th value slot", shop.change(0, 0, 13, 1), 8);
                Shop.due("a 13th method slot", shop.change(0, 1, 13, 1), 8);
                Shop.due("a parent as the 13th", shop.change(0, links == 4 ? 0 : 3, links == 4 ? 14 : 3, 1), 8);
                Shop.due("another value in the twelfth", shop.change(0, 0, 11, 77), 0);
                Shop.due("held", shop.held(0, 11, 1), 77);
                Shop.due("shapes", shop.count(5), shapes);
                Shop.due("drop", shop.change(0, 2, 11, 0), 0);
                Shop.due("a twelfth again", shop.change(0, 0, 14, 5), 0);
                Shop.due("it stands behind", shop.item(shop.shape(0), 24), 14);
                Shop.due("and no 13th behind it", shop.item(shop.shape(0), 25), -1);
            }
        }
        // the row of the next shape is not a part of a full one
        DelegationShop shop = Shop.of(1, "method m(a,b){" + names + "}");
        for (int x = 1; x <= 12; x++) {
            shop.change(0, 0, x, x);
        }
        shop.change(1, 3, 3, 0);
        Shop.due("the way of a full row without parents", shop.way(0, 1), -1);
        Shop.due("unlink of a parent that another has", shop.change(0, 4, 3, 0), 7);
        Shop.due("link of it as the 13th", shop.change(0, 3, 3, 0), 8);
        shop.change(2, 0, 13, 0);
        Shop.due("drop of a slot that another has", shop.change(0, 2, 13, 0), 7);
    }

    /** PARENTS (objects; it may be its own). */
    private static void aParentOfItself() {
        DelegationShop shop = Shop.of(2, "method m(a,b){link self,self; add self,n=5; write above.n; write self.n; drop self,n; guard{above.n;}on 1 e{write e;} unlink self,self;}");
        Shop.due("run", shop.run(0, 0, 0), 0);
        Shop.same("written", Shop.writtenOf(shop), " 1:5 1:5 1:1");
        Shop.due("the row is empty again", shop.shape(0), 0);
        shop.change(0, 3, 0, 0);
        Shop.due("its way is itself", shop.way(0, 1), 0);
        Shop.due("and no more", shop.way(0, 2), -1);
    }

    /** No NAME and no parent is twice in a row. */
    private static void nothingTwiceInARow() {
        DelegationShop shop = Shop.of(2, "method m(a,b){self.x; self.y; self.z;}");
        Shop.due("value slot 3", shop.change(0, 0, 3, 1), 0);
        Shop.due("method slot 3", shop.change(0, 1, 3, 0), 7);
        Shop.due("parent 3 is none of the NAME 3", shop.change(0, 3, 3, 0), 0);
        Shop.due("parent 3 again", shop.change(0, 3, 3, 0), 7);
        Shop.due("method slot 2", shop.change(0, 1, 2, 0), 0);
        Shop.due("value slot 2", shop.change(0, 0, 2, 0), 7);
        Shop.due("parent 2", shop.change(0, 3, 2, 0), 0);
        Shop.due("items", shop.item(shop.shape(0), 0), 4);
        Shop.due("drop of the NAME 3 leaves the parent", shop.change(0, 2, 3, 0), 0);
        Shop.due("the parents", shop.way(0, 1) * 10 + shop.way(0, 2), 32);
        Shop.due("drop of NAME 3 again", shop.change(0, 2, 3, 0), 7);
        Shop.due("unlink of 2 leaves the NAME 2", shop.change(0, 4, 2, 0), 0);
        Shop.due("held", shop.held(0, 2, 0), 4);
        Shop.due("unlink of 2 again", shop.change(0, 4, 2, 0), 7);
        due("add lobby,n=1; add lobby,n=2; drop lobby,n; drop lobby,n;", "1 7 0:0");
    }

    /** NAMES are numbers: 0 is lost, the others are numbered from 1 on by their first places in the text as names. */
    private static void numbersOfNames() {
        String text = "method zz(yy,xx){var ww=1; add self,vv=ww.uu; set self.tt,ss=above.rr(self.qq); give lobby,pp,zz; drop self,uu; ww.lost; ww.oo; lobby.vv;}";
        DelegationShop shop = Shop.of(0, text);
        String[] want = {"lost", "vv", "uu", "tt", "ss", "rr", "qq", "pp", "oo"};
        Shop.due("names", shop.count(1), want.length);
        for (int x = 0; x < want.length; x++) {
            Shop.due("length of NAME " + x, shop.nameByte(x, 2), want[x].length() > 2 ? want[x].charAt(2) : 0);
            Shop.due("NAME " + x, shop.nameByte(x, 0) * 256L + shop.nameByte(x, 1), want[x].charAt(0) * 256L + want[x].charAt(1));
        }
        Shop.due("names of a text without names", Shop.of(0, "method m(a,b){a=b;}").count(1), 1);
        Shop.due("names of a text with lost alone", Shop.of(0, "method m(a,b){a.lost; add b,lost=1;}").count(1), 1);
    }

    /** Two objects have the same shape just if their rows are the same but for what slots hold. */
    private static void sameShapes() {
        DelegationShop shop = Shop.of(0, "method m(a,b){self.x; self.y; new; new; new; new;} method k(){}");
        shop.change(0, 0, 1, 5);
        shop.change(0, 0, 2, 6);
        shop.change(1, 0, 1, -5);
        shop.change(1, 0, 2, MAX);
        Shop.due("other values, the same shape", shop.shape(1), shop.shape(0));
        shop.change(2, 0, 2, 6);
        shop.change(2, 0, 1, 5);
        Shop.due("another order, another shape", shop.shape(2) == shop.shape(0) ? 1 : 0, 0);
        shop.change(3, 1, 1, 0);
        shop.change(3, 0, 2, 6);
        Shop.due("another kind, another shape", shop.shape(3) == shop.shape(0) ? 1 : 0, 0);
        Shop.due("shapes", shop.count(5), 7);
        Shop.due("another method", shop.change(3, 1, 1, 1), 0);
        Shop.due("shapes", shop.count(5), 7);
        Shop.due("they are numbered as they are made", shop.shape(0) * 100 + shop.shape(2) * 10 + shop.shape(3), 246);
    }

    /** When an item GOES (those behind it move up): first the shapes of the rows that end with each that moves up, the shorter first. */
    private static void goingItems() {
        for (int goes = 0; goes < 12; goes++) {
            DelegationShop shop = twelve();
            Shop.due("shapes", shop.count(5), 13);
            Shop.due("drop of item " + goes, shop.change(0, 2, goes + 1, 0), 0);
            Shop.due("shapes behind it", shop.count(5), 13 + 11 - goes);
            int s = 0;
            int made = 13;
            for (int x = 1; x <= 12; x++) {
                if (x == goes + 1) {
                    continue;
                }
                s = shop.next(s, 0, x);
                Shop.due("the shape that ends with NAME " + x, s, x <= goes ? x : made++);
                Shop.due("held", shop.held(0, x, 1), x * 100);
            }
            Shop.due("the shape of the whole row", shop.shape(0), s);
            Shop.due("held of the one that went", shop.held(0, goes + 1, 0), -1);
        }
    }

    private static DelegationShop twelve() {
        StringBuilder text = new StringBuilder("method m(a,b){");
        for (int x = 1; x <= 12; x++) {
            text.append("self.n").append((char) ('a' + x)).append(";");
        }
        DelegationShop shop = Shop.of(0, text + "}");
        for (int x = 1; x <= 12; x++) {
            shop.change(0, 0, x, x * 100);
        }
        return shop;
    }

    /** What isn't there yet is made. */
    private static void goingItemsWhoseShapesAreThere() {
        for (int there = 0; there <= 3; there++) {
            DelegationShop shop = twelve();
            for (int x : new int[] {1, 3, 4, 5}) {
                if (x <= there + 2) {
                    shop.change(1, 0, x, 0);
                }
            }
            for (int x = 1; x <= 5; x++) {
                shop.change(2, 0, x, x);
            }
            int shapes = shop.count(5);
            Shop.due("drop", shop.change(2, 2, 2, 0), 0);
            Shop.due("shapes made when " + there + " are there", shop.count(5) - shapes, 3 - Math.max(0, there));
            Shop.due("the row", shop.item(shop.shape(2), 2) * 1000 + shop.item(shop.shape(2), 4) * 100 + shop.item(shop.shape(2), 6) * 10 + shop.item(shop.shape(2), 8), 1345);
            Shop.due("its shape is that of the row", shop.next(shop.next(shop.next(shop.next(0, 0, 1), 0, 3), 0, 4), 0, 5), shop.shape(2));
            Shop.due("held", shop.held(2, 3, 1) * 100 + shop.held(2, 4, 1) * 10 + shop.held(2, 5, 1), 345);
        }
        DelegationShop shop = Shop.of(0, "method m(a,b){self.x; self.y;}");
        shop.change(0, 0, 1, 1);
        shop.change(0, 3, 2, 1);
        shop.change(0, 0, 2, 1);
        shop.change(1, 0, 1, 1);
        shop.change(1, 0, 2, 1);
        int shapes = shop.count(5);
        Shop.due("unlink", shop.change(0, 4, 2, 1), 0);
        Shop.due("nothing is made", shop.count(5), shapes);
        Shop.due("the same shape", shop.shape(0), shop.shape(1));
    }

    /**
     * A shop with just so many shapes: object 0 has a row of twelve NAMES (1 to 12), object 1 the first seven of them,
     * object 4 the parent 0, on which the entry of site 0 rests.
     */
    private static DelegationShop shapes(int many) {
        StringBuilder text = new StringBuilder("method k(a,b){var p=new; link p,self; guard{p.nn;}on 1 e{}} method m(a,b){");
        for (int x = 1; x <= 14; x++) {
            text.append("drop self,n").append((char) ('a' + x)).append(";");
        }
        DelegationShop shop = Shop.of(2, text + "} method fill(a,b){var o=new; var q=new; link q,q;"
            + " while a {var p=new; link o,p; unlink o,p; a=a-1; if b {link q,p; unlink q,p; b=b-1;}}}");
        shop.run(0, 0, 0);
        for (int x = 1; x <= 12; x++) {
            shop.change(0, 0, x + 1, x * 100);
            if (x <= 7) {
                shop.change(1, 0, x + 1, x);
            }
        }
        int left = many - shop.count(5) - 1;
        Shop.due("run", shop.run(2, (left + 1) / 2, left / 2), 0);
        Shop.due("shapes", shop.count(5), many);
        shop.change(4, 4, 0, 0);
        shop.change(4, 3, 0, 0);
        return shop;
    }

    /** At most 400 are made: if there is no room for all that are to be made, nothing is changed or made: FULL. */
    private static void fourHundredShapes() {
        // seven shapes are to be made when the fifth of the twelve goes
        DelegationShop fits = shapes(393);
        Shop.due("the drop for which there is just room", fits.change(0, 2, 6, 0), 0);
        Shop.due("shapes", fits.count(5), 400);
        Shop.due("the last one is the whole row's", fits.shape(0), 399);
        DelegationShop shop = shapes(394);
        int shape = shop.shape(0);
        shop.run(0, 0, 0);
        Shop.due("an entry rests on object 0", shop.rests(0, 0, 0) ? 1 : 0, 1);
        String before = Snapshot.of(shop);
        Shop.due("a drop for which there is one too few", shop.change(0, 2, 6, 0), 8);
        Shop.same("nothing is changed or made", Snapshot.of(shop), before);
        Shop.due("a drop of one less", shop.change(0, 2, 7, 0), 0);
        Shop.due("held", shop.held(0, 7, 0), -1);
        Shop.due("shapes", shop.count(5), 400);
        DelegationShop full = shapes(400);
        before = Snapshot.of(full);
        Shop.due("an add", full.change(3, 0, 14, 0), 8);
        Shop.due("a give", full.change(3, 1, 2, 0), 8);
        Shop.due("a link", full.change(3, 3, 3, 0), 8);
        Shop.due("a drop", full.change(0, 2, 12, 0), 8);
        Shop.due("a drop of what isn't there", full.change(0, 2, 14, 0), 7);
        Shop.due("an unlink of what isn't there", full.change(0, 4, 2, 0), 7);
        Shop.same("nothing is changed or made", Snapshot.of(full), before);
        Shop.due("an add that makes none", full.change(3, 0, 2, 0), 0);
        Shop.due("a drop of the last item", full.change(0, 2, 13, 0), 0);
        Shop.due("and its coming again", full.change(0, 0, 13, 5), 0);
        Shop.due("the shape is the same", full.shape(0), shape);
        Shop.due("shapes", full.count(5), 400);
        String run = "var i=0; var o=new; while 1 {o=clone(o); link o,o; write i; i=i+1;}";
        due("guard{" + run + "} on 8 e {} answer 1;", "0 1:1" + counted(12));
    }

    private static String counted(int to) {
        StringBuilder all = new StringBuilder();
        for (int i = 0; i < to; i++) {
            all.append(" 1:").append(i);
        }
        return all.toString();
    }

    /** An object that is not in the row yet comes to its end; one that is in the row already is passed over. */
    private static void waysOfFewAndOfAll() {
        DelegationShop shop = Shop.of(0, "method m(a,b){new; new; new; new; self.x;}");
        shop.run(0, 0, 0);
        Shop.due("no parents", shop.way(4, 1), -1);
        int[][] links = {{4, 5}, {4, 6}, {5, 6}, {6, 7}, {7, 5}, {7, 0}};
        for (int[] link : links) {
            shop.change(link[0], 3, link[1], 0);
        }
        int[] want = {5, 6, 7, 0, -1, -1};
        for (int k = 1; k <= want.length; k++) {
            Shop.due("way(4, " + k + ")", shop.way(4, k), want[k - 1]);
        }
        shop.change(0, 3, 4, 0);
        Shop.due("the object itself, when it is met", shop.way(4, 5), 4);
        Shop.due("no more", shop.way(4, 6), -1);
        shop.change(4, 4, 5, 0);
        int[] then = {6, 7, 5, 0, 4, -1};
        for (int k = 1; k <= then.length; k++) {
            Shop.due("way(4, " + k + ") without 5", shop.way(4, k), then[k - 1]);
        }
    }

    /** START 0 .. START -1 .. START h + 1: in the WAY, from the object behind h on; if h is not in the WAY, nowhere. */
    private static void starts() {
        DelegationShop shop = Shop.of(0, "method m(a,b){new; new; new; new; self.x; self.y;}");
        shop.run(0, 0, 0);
        shop.change(4, 3, 5, 0);
        shop.change(4, 3, 6, 0);
        shop.change(4, 0, 1, 0);
        for (int o = 5; o <= 6; o++) {
            shop.change(o, 1, 1, 0);
        }
        int[][] want = {{-1, 1}, {0, 0}, {5, -1}, {6, 2}, {7, -1}, {8, -1}, {1, -1}};
        for (int[] w : want) {
            Shop.due("look(4, 1, " + w[0] + ")", shop.look(4, 1, w[0]), w[1]);
            Shop.due("look(4, 2, " + w[0] + ")", shop.look(4, 2, w[0]), -1);
        }
        Shop.due("without a way", shop.look(7, 1, 8), -1);
        shop.change(6, 3, 4, 0);
        Shop.due("from the object itself, which is in its way", shop.look(4, 1, -1) * 10 + shop.look(4, 1, 7), 13);
        Shop.due("behind itself, which is the last", shop.look(4, 1, 5), -1);
        Shop.due("a parent of the NAME's number is no slot", shop.look(7, 1, 0), -1);
        shop.change(7, 3, 1, 0);
        Shop.due("a parent of the NAME's number is no slot", shop.look(7, 1, 0), -1);
    }
}
