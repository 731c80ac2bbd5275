/** Promises 5 and 6: manner and forget. */
public final class MannerTest {
    private static final String TEXT = "method m(a,b){add lobby,n=1; drop lobby,n; link lobby,new; guard{lobby.n;}on 1 e{} lobby.lost; }";

    public static void main(String[] args) {
        withoutText();
        forgetting(true);
        forgetting(false);
        MannersAlike.compare();
        Shop.finish();
    }

    private static void withoutText() {
        DelegationShop shop = new DelegationShop();
        for (int m : new int[] {-1, 3, Integer.MIN_VALUE, Integer.MAX_VALUE}) {
            Shop.throwing("manner(" + m + ")", IllegalArgumentException.class, () -> {
                shop.manner(m);
                return 0;
            });
        }
        shop.manner(1);
        shop.forget();
        Shop.load(shop, TEXT);
        Shop.due("count(8)", shop.count(8), 1);
        Shop.throwing("manner(7)", IllegalArgumentException.class, () -> {
            shop.manner(7);
            return 0;
        });
        Shop.due("count(8) behind manner(7)", shop.count(8), 1);
        for (int m = 0; m <= 2; m++) {
            shop.manner(m);
            Shop.due("count(8)", shop.count(8), m);
        }
    }

    private static void forgetting(boolean byManner) {
        DelegationShop shop = Shop.of(2, TEXT);
        shop.run(0, 1, 2);
        Shop.due("uses", shop.site(0, 4), 1);
        Shop.due("entries", shop.site(0, 3), 1);
        shop.change(4, 0, 1, 3);
        Shop.due("voids of the site", shop.site(0, 6), 1);
        Shop.due("voids", shop.voids(), 2);
        shop.run(0, 1, 2);
        Shop.due("failures of the latest run", shop.latest(4), 1);
        int voids = shop.voids();
        if (byManner) {
            shop.manner(2);
        } else {
            shop.forget();
        }
        for (int site = 0; site < 2; site++) {
            for (int what = 2; what <= 7; what++) {
                Shop.due("site(" + site + ", " + what + ")", shop.site(site, what), 0);
            }
        }
        Shop.due("kind, name and place stay", shop.site(0, 1), 1);
        Shop.due("table", shop.count(7), 0);
        Shop.due("voids stay", shop.voids(), voids);
        Shop.due("the latest run stays", shop.latest(4), 1);
        Shop.due("manner", shop.count(8), 2);
        Shop.due("calls stay", shop.calls(0), 2);
        Shop.due("objects stay", shop.count(4), 6);
    }
}
