/** All that a shop tells, as one text: two of them are the same if nothing changed between. */
final class Snapshot {
    private Snapshot() {
    }

    static String of(DelegationShop shop) {
        StringBuilder all = new StringBuilder();
        for (int what = 0; what <= 8; what++) {
            int w = what;
            all.append(" ").append(Shop.told(() -> shop.latest(w))).append(" ").append(Shop.told(() -> shop.count(w)));
        }
        rows(all, shop);
        objects(all, shop);
        sites(all, shop);
        return all.toString();
    }

    private static void rows(StringBuilder all, DelegationShop shop) {
        all.append(Shop.number(() -> shop.latest(5)) > 0 ? Shop.writtenOf(shop) : "");
        for (int i = 0; i < Math.min(300, Shop.number(() -> shop.latest(6))); i++) {
            for (int what = 0; what < 4; what++) {
                all.append(what == 0 ? "\nbegun " : " ").append(shop.begun(i, what));
            }
        }
        for (int i = 0; i < Math.min(64, Shop.number(() -> shop.latest(4))); i++) {
            for (int what = 0; what < 6; what++) {
                all.append(what == 0 ? "\nfailure " : " ").append(shop.failure(i, what));
            }
        }
        for (int m = 0; m < 41; m++) {
            int method = m;
            all.append(" ").append(Shop.told(() -> shop.calls(method)));
        }
    }

    private static void objects(StringBuilder all, DelegationShop shop) {
        int objects = Shop.number(() -> shop.count(4));
        int names = Shop.number(() -> shop.count(1));
        for (int o = 0; o < objects; o++) {
            all.append("\nobject ").append(shop.shape(o));
            for (int x = 0; x < names; x++) {
                all.append(" ").append(shop.held(o, x, 0)).append(":").append(shop.held(o, x, 1));
            }
            for (int k = 1; k < 14; k++) {
                all.append(" ").append(shop.way(o, k));
            }
        }
        for (int s = 0; s < Shop.number(() -> shop.count(5)); s++) {
            all.append("\nshape");
            for (int what = 0; what < 25; what++) {
                all.append(" ").append(shop.item(s, what));
            }
        }
    }

    private static void sites(StringBuilder all, DelegationShop shop) {
        int sites = Shop.number(() -> shop.count(2));
        for (int i = -1; i < sites; i++) {
            all.append("\nsite");
            for (int what = 0; i >= 0 && what <= 8; what++) {
                all.append(" ").append(shop.site(i, what));
            }
            int site = i;
            int entries = i < 0 ? Shop.number(() -> shop.count(7)) : Shop.number(() -> shop.site(site, 3));
            for (int k = 0; k < entries; k++) {
                for (int what = 0; what <= 4; what++) {
                    all.append(what == 0 ? " / " : " ").append(shop.entry(i, k, what));
                }
                for (int o = 0; o < shop.count(4); o++) {
                    all.append(shop.rests(i, k, o) ? " " + o : "");
                }
            }
        }
        all.append("\nvoids ").append(Shop.told(shop::voids)).append(" ").append(Shop.told(shop::astray));
        for (int j = 0; j < Shop.number(shop::voids); j++) {
            for (int what = 0; what < 4; what++) {
                all.append(" ").append(shop.gone(j, what));
            }
        }
    }
}
