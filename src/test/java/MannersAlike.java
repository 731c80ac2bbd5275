/** Section 6: the same calls give the same outcomes, answers, rows and objects in all manners. */
final class MannersAlike {
    private MannersAlike() {
    }

    static void compare() {
        for (int seed = 5000; seed < 5030; seed++) {
            String text = new RandomText(seed).text();
            if (text.length() > 6000 || Shop.fault(text) >= 0) {
                continue;
            }
            String[] told = new String[3];
            for (int manner = 0; manner < 3; manner++) {
                told[manner] = tell(Shop.of(manner, text), new RandomText(seed + 1));
            }
            Shop.same("seed " + seed + " in manner 1", told[1], told[0]);
            Shop.same("seed " + seed + " in manner 2", told[2], told[0]);
        }
    }

    private static String tell(DelegationShop shop, RandomText random) {
        StringBuilder told = new StringBuilder();
        int methods = shop.count(0);
        for (int n = 0; n < 9; n++) {
            if (n % 3 == 2) {
                int o = random.below(5);
                int op = random.below(5);
                int x = random.below(4);
                told.append(Shop.told(() -> shop.change(o, op, x, 1))).append(" ");
                continue;
            }
            int m = random.below(methods);
            told.append(Shop.told(() -> shop.run(m, 3, 4))).append(" ");
            for (int what = 0; what <= 6; what++) {
                told.append(shop.latest(what)).append(" ");
            }
            told.append(Shop.writtenOf(shop)).append(" ").append(shop.count(4)).append(" ").append(shop.count(5)).append("\n");
            for (int o = 0; o < shop.count(4); o++) {
                told.append(shop.shape(o)).append(",").append(shop.held(o, 1, 1)).append(" ");
            }
            Shop.due("astray", shop.astray(), 0);
        }
        return told.toString();
    }
}
