/** The example of README.md: a text of three methods, a run of it, and what the shop tells behind it. */
public final class Example {
    private static final String TEXT =
        "method area() { answer self.w * self.h; }\n"
        + "method twice() { answer self.area * 2; }\n"
        + "method go(a, b) {\n"
        + "  var form = new; give form, area, area; give form, twice, twice;\n"
        + "  var one = new; link one, form; add one, w = a; add one, h = b;\n"
        + "  write one.area; write one.twice;\n"
        + "  guard { write one.depth; } on 1 name { write name; }\n"
        + "  answer one;\n"
        + "}\n";

    public static void main(String[] args) {
        DelegationShop shop = new DelegationShop();
        shop.manner(2);
        put(shop, TEXT);
        System.out.println("methods: " + shop.load());

        System.out.println("outcome: " + shop.run(2, 3, 4));
        System.out.println("answer: sort " + shop.latest(0) + ", worth " + shop.latest(1));
        for (int i = 0; i < shop.latest(5); i++) {
            System.out.println("written: sort " + shop.written(i, 0) + ", worth " + shop.written(i, 1));
        }
        System.out.println("failure: kind " + shop.failure(0, 0) + ", value " + shop.failure(0, 2)
            + ", method " + shop.failure(0, 3) + ", place " + shop.failure(0, 4));
        System.out.println("name 5: " + name(shop, 5));

        int one = (int) shop.latest(1);
        System.out.println("way of " + one + ": " + shop.way(one, 1) + ", " + shop.way(one, 2));
        System.out.println("h of " + one + ": " + shop.held(one, 2, 1));
        System.out.println("site 2: uses " + shop.site(2, 4) + ", misses " + shop.site(2, 5));
        System.out.println("entry: shape " + shop.entry(2, 0, 0) + ", place " + shop.entry(2, 0, 2));

        System.out.println("change: " + shop.change(shop.way(one, 1), 0, 5, 9));
        System.out.println("void: " + shop.voids() + ", the first of site " + shop.gone(0, 0));

        put(shop, "method go(a, b) { answer c; }");
        System.out.println("fault: " + (-1 - shop.load()));
    }

    /** Puts a text on an empty tape: twenty bytes at a time, blanks behind the last ones, then cut to its length. */
    private static void put(DelegationShop shop, String text) {
        for (int i = 0; i < text.length(); i += 20) {
            shop.feed(four(text, i), four(text, i + 4), four(text, i + 8), four(text, i + 12), four(text, i + 16));
        }
        shop.end(text.length());
    }

    private static int four(String text, int at) {
        int number = 0;
        for (int i = at; i < at + 4; i++) {
            number = number << 8 | (i < text.length() ? text.charAt(i) : ' ');
        }
        return number;
    }

    private static String name(DelegationShop shop, int x) {
        StringBuilder letters = new StringBuilder();
        for (int k = 0; shop.nameByte(x, k) != 0; k++) {
            letters.append((char) shop.nameByte(x, k));
        }
        return letters.toString();
    }
}
