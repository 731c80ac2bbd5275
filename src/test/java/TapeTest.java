/** Promises 1 to 4: the tape, and what load() does with it beside reading the text. */
public final class TapeTest {
    private static final String PLAIN = "method m(a,b){answer a+b;}";

    public static void main(String[] args) {
        newObject();
        feeding();
        cutting();
        loading();
        loadingAgain();
        whatWasCutIsNoToken();
        fullTapes();
        Shop.finish();
    }

    private static void newObject() {
        DelegationShop shop = new DelegationShop();
        Shop.throwing("count of no text", IllegalStateException.class, () -> shop.count(0));
        Shop.throwing("astray of no text", IllegalStateException.class, () -> shop.astray());
        Shop.throwing("end(1) of an empty tape", IllegalArgumentException.class, () -> {
            shop.end(1);
            return 0;
        });
        Shop.due("load() of an empty tape", shop.load(), -1);
        Shop.load(shop, PLAIN);
        Shop.due("count(8)", shop.count(8), 0);
    }

    private static void feeding() {
        DelegationShop shop = new DelegationShop();
        for (int n = 1; n <= 300; n++) {
            Shop.due("feed " + n, shop.feed(0x20202020, 0x20202020, 0x20202020, 0x20202020, 0x20202020), 20L * n);
        }
        Shop.throwing("feed of 6020", UnsupportedOperationException.class, () -> shop.feed(0, 0, 0, 0, 0));
        shop.end(5999);
        Shop.throwing("feed of 6019", UnsupportedOperationException.class, () -> shop.feed(0, 0, 0, 0, 0));
        Shop.due("load() of blanks", shop.load(), -1 - 5999);
        Shop.due("feed behind load()", shop.feed(0x20404040, 0, 0, 0, 0), 20);
        Shop.due("load(): the highest byte comes first", shop.load(), -2);
    }

    private static void cutting() {
        DelegationShop shop = new DelegationShop();
        shop.feed(1, 2, 3, 4, 5);
        for (int n : new int[] {-1, 21, Integer.MIN_VALUE, Integer.MAX_VALUE}) {
            Shop.throwing("end(" + n + ")", IllegalArgumentException.class, () -> {
                shop.end(n);
                return 0;
            });
        }
        shop.end(20);
        shop.end(3);
        Shop.due("feed behind end(3)", shop.feed(0, 0, 0, 0, 0), 23);
        shop.end(0);
        Shop.due("feed behind end(0)", shop.feed(0, 0, 0, 0, 0), 20);
    }

    private static void loading() {
        DelegationShop shop = Shop.of(2, PLAIN + "method k(a,b){lobby.nn; add lobby,nn=1;}");
        shop.run(0, 2, 3);
        shop.run(1, 2, 3);
        Shop.due("latest(3)", shop.latest(3), 0);
        Shop.due("load() of a fault", Shop.load(shop, "method m(a,b){answer a+;}"), -1 - 23);
        Shop.due("feed behind a fault", shop.feed(0, 0, 0, 0, 0), 20);
        shop.end(0);
        Shop.due("methods stay", shop.count(0), 2);
        Shop.due("the latest run stays", shop.latest(3), 0);
        Shop.due("sites stay", shop.site(0, 4), 1);
        shop.change(0, 0, 1, 7);
        Shop.due("a run of the old text", shop.run(1, 0, 0), 0);
        Shop.due("load()", Shop.load(shop, PLAIN), 1);
        Shop.due("manner stays", shop.count(8), 2);
        Shop.due("objects", shop.count(4), 4);
        Shop.due("shapes", shop.count(5), 1);
        Shop.due("sites", shop.count(2), 0);
        Shop.due("failures", shop.latest(4), 0);
        Shop.due("left by", shop.latest(3), -1);
        Shop.due("calls", shop.calls(0), 0);
        Shop.due("voids", shop.voids(), 0);
        Shop.due("shape of the lobby", shop.shape(0), 0);
    }

    private static void loadingAgain() {
        DelegationShop shop = new DelegationShop();
        String two = "method k(){} method m(a,b){self.p; set self,q=[guard{1;}on 0 e{}]; fail 20;}";
        for (int n = 0; n < 4; n++) {
            Shop.due("load()", Shop.load(shop, PLAIN), 1);
            Shop.due("counts", shop.count(1) * 100 + shop.count(2) * 10 + shop.count(3), 100);
            Shop.due("run", shop.run(0, 4, 5), 0);
            Shop.due("answer", shop.latest(1), 9);
            Shop.due("load() of a fault", Shop.load(shop, two + "method k(){}"), -1 - two.length() - 7);
            Shop.due("load() of a fault within a literal", Shop.load(shop, "method m(){[|a,b| [|a,b,c,d| ?"), -1 - 29);
            Shop.due("counts", shop.count(1) * 100 + shop.count(2) * 10 + shop.count(3), 100);
            Shop.due("run", shop.run(0, 4, 6), 0);
            Shop.due("answer", shop.latest(1), 10);
            Shop.due("load()", Shop.load(shop, two), 2);
            Shop.due("counts", shop.count(1) * 100 + shop.count(2) * 10 + shop.count(3), 321);
            Shop.due("run", shop.run(1, 4, 6), 1);
            Shop.due("kind", shop.failure(0, 0), 1);
            shop.change(0, 0, 1, 0);
            shop.change(0, 0, 2, 0);
            Shop.due("run", shop.run(1, 4, 6), 1);
            Shop.due("kind", shop.failure(0, 0), 20);
            Shop.due("blocks", shop.count(6), 1);
        }
    }

    /** The bytes behind the end of the tape are still in the shop, but not on the tape. */
    private static void whatWasCutIsNoToken() {
        String[][] cut = {{"method m(){123456789", "0;}"}, {"method m(){self.abcdefgh", "i;}"}, {"method m(){self=", "=1;}"}, {"method m(){retur", "n 1;}"}};
        int[] fault = {20, 24, 15, 11};
        for (int n = 0; n < cut.length; n++) {
            DelegationShop shop = new DelegationShop();
            Shop.feed(shop, cut[n][0] + cut[n][1]);
            shop.end(cut[n][0].length());
            Shop.due("load() of " + cut[n][0], shop.load(), -1 - fault[n]);
        }
        DelegationShop shop = new DelegationShop();
        Shop.feed(shop, PLAIN + "1");
        shop.end(PLAIN.length());
        Shop.due("load()", shop.load(), 1);
    }

    private static void fullTapes() {
        Shop.due("fault of signs alone", Shop.fault(";".repeat(6000)), 0);
        Shop.due("fault of blanks", Shop.fault(" ".repeat(6000)), 6000);
        Shop.due("fault of minuses", Shop.fault("method m(){" + "-".repeat(5989)), 6000);
        String head = "method m(a,b){";
        DelegationShop shop = Shop.of(2, head + "1;".repeat(2992) + " }");
        Shop.due("run", shop.run(0, 1, 2), 0);
        Shop.due("steps", shop.latest(2), 2992);
        for (int n = 0; n < 6; n++) {
            Shop.due("load() of a long text", Shop.load(shop, head + "1;".repeat(2980) + "answer " + n + ";}"), 1);
            Shop.due("run", shop.run(0, 1, 2), 0);
            Shop.due("answer", shop.latest(1), n);
        }
        DelegationShop minus = Shop.of(2, head + "answer " + "-".repeat(5976) + "a;}");
        Shop.due("run", minus.run(0, 1, 2), 0);
        Shop.due("answer", minus.latest(1), 1);
        DelegationShop blocks = Shop.of(2, head + "[];".repeat(60) + "-1;".repeat(1900) + "answer a;}");
        Shop.due("run", blocks.run(0, 1, 2), 0);
        Shop.due("answer", blocks.latest(1), 1);
    }
}
