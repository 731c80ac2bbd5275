import java.util.function.LongSupplier;

/** A DelegationShop and the reference, to which every call goes; whatever they tell must be the same. */
final class Twins {
    final DelegationShop shop = new DelegationShop();
    final Reference reference = new Reference();
    private final String title;
    int wrong = 0;
    int outcome = -1;

    Twins(String title) {
        this.title = title;
    }

    private void both(String call, LongSupplier one, LongSupplier other) {
        String got = Shop.told(one);
        String want = Shop.told(other);
        if (!got.equals(want)) {
            wrong++;
            Shop.same(title + ": " + call, got, want);
        }
    }

    void load(String text) {
        byte[] bytes = text.getBytes(java.nio.charset.StandardCharsets.ISO_8859_1);
        for (int i = 0; i < bytes.length; i += 20) {
            int[] five = new int[5];
            for (int k = 0; k < 20; k++) {
                five[k / 4] = five[k / 4] << 8 | (i + k < bytes.length ? bytes[i + k] & 255 : 'x');
            }
            both("feed", () -> shop.feed(five[0], five[1], five[2], five[3], five[4]),
                () -> reference.feed(five[0], five[1], five[2], five[3], five[4]));
        }
        shop.end(bytes.length);
        reference.end(bytes.length);
        both("load()", shop::load, reference::load);
    }

    void manner(int m) {
        both("manner(" + m + ")", () -> done(() -> shop.manner(m)), () -> done(() -> reference.manner(m)));
    }

    void forget() {
        shop.forget();
        reference.forget();
    }

    private static long done(Runnable call) {
        call.run();
        return 0;
    }

    void run(int m, long a, long b) {
        outcome = -1;
        both("run(" + m + ", " + a + ", " + b + ")", () -> shop.run(m, a, b), () -> outcome = reference.run(m, a, b));
    }

    void change(int o, int op, int x, long v) {
        both("change(" + o + ", " + op + ", " + x + ", " + v + ")", () -> shop.change(o, op, x, v), () -> reference.change(o, op, x, v));
    }

    /** Everything that can be asked, a little beyond what there is. */
    void compare() {
        for (int what = -1; what <= 9; what++) {
            int w = what;
            both("latest(" + w + ")", () -> shop.latest(w), () -> reference.latest(w));
            both("count(" + w + ")", () -> shop.count(w), () -> reference.count(w));
        }
        both("voids()", shop::voids, reference::voids);
        both("astray()", shop::astray, reference::astray);
        compareRows();
        compareObjects();
        compareSites();
    }

    private int bound(LongSupplier call) {
        String told = Shop.told(call);
        return Character.isLetter(told.charAt(0)) ? 1 : (int) Long.parseLong(told);
    }

    private void compareRows() {
        for (int i = -1; i <= Math.min(301, bound(() -> reference.latest(5))); i++) {
            for (int what = -1; what <= 2; what++) {
                int n = i;
                int w = what;
                both("written(" + n + ", " + w + ")", () -> shop.written(n, w), () -> reference.written(n, w));
            }
        }
        for (int i = -1; i <= Math.min(301, bound(() -> reference.latest(6))); i++) {
            for (int what = -1; what <= 4; what++) {
                int n = i;
                int w = what;
                both("begun(" + n + ", " + w + ")", () -> shop.begun(n, w), () -> reference.begun(n, w));
            }
        }
        for (int i = -1; i <= Math.min(65, bound(() -> reference.latest(4))); i++) {
            for (int what = -1; what <= 6; what++) {
                int n = i;
                int w = what;
                both("failure(" + n + ", " + w + ")", () -> shop.failure(n, w), () -> reference.failure(n, w));
            }
        }
        for (int i = -1; i <= bound(() -> reference.count(0)); i++) {
            int m = i;
            both("calls(" + m + ")", () -> shop.calls(m), () -> reference.calls(m));
        }
        for (int j = -1; j <= bound(() -> reference.voids()); j++) {
            for (int what = -1; what <= 4; what++) {
                int n = j;
                int w = what;
                both("gone(" + n + ", " + w + ")", () -> shop.gone(n, w), () -> reference.gone(n, w));
            }
        }
    }

    private void compareObjects() {
        int objects = bound(() -> reference.count(4));
        int shapes = bound(() -> reference.count(5));
        int names = bound(() -> reference.count(1));
        for (int i = -1; i <= objects; i++) {
            int o = i;
            both("shape(" + o + ")", () -> shop.shape(o), () -> reference.shape(o));
            for (int k = -1; k < 9; k++) {
                int n = k;
                both("way(" + o + ", " + n + ")", () -> shop.way(o, n), () -> reference.way(o, n));
            }
            for (int x = -1; x <= names; x++) {
                int n = x;
                for (int what = -1; what <= 2; what++) {
                    int w = what;
                    both("held(" + o + ", " + n + ", " + w + ")", () -> shop.held(o, n, w), () -> reference.held(o, n, w));
                }
                for (int start : new int[] {-2, -1, 0, 1, 5, (o + n) % 7, objects, objects + 1}) {
                    both("look(" + o + ", " + n + ", " + start + ")", () -> shop.look(o, n, start), () -> reference.look(o, n, start));
                }
            }
        }
        for (int i = -1; i <= shapes; i++) {
            int s = i;
            for (int what = -1; what <= 26; what++) {
                int w = what;
                both("item(" + s + ", " + w + ")", () -> shop.item(s, w), () -> reference.item(s, w));
            }
            for (int kind = -1; kind <= 3; kind++) {
                int d = kind;
                for (int x = -1; x < 7; x++) {
                    int n = x;
                    both("next(" + s + ", " + d + ", " + n + ")", () -> shop.next(s, d, n), () -> reference.next(s, d, n));
                }
            }
        }
    }

    private void compareSites() {
        int many = bound(() -> reference.count(2));
        for (int i = -2; i <= many; i++) {
            int site = i;
            int entries = site == -1 ? bound(() -> reference.count(7)) : bound(() -> reference.site(site, 3));
            for (int what = -1; what <= 9; what++) {
                int w = what;
                both("site(" + site + ", " + w + ")", () -> shop.site(site, w), () -> reference.site(site, w));
            }
            for (int k = -1; k <= entries; k++) {
                int n = k;
                for (int what = -1; what <= 5; what++) {
                    int w = what;
                    both("entry(" + site + ", " + n + ", " + w + ")", () -> shop.entry(site, n, w), () -> reference.entry(site, n, w));
                }
                for (int o = -1; o <= Math.min(200, bound(() -> reference.count(4))); o++) {
                    int x = o;
                    both("rests(" + site + ", " + n + ", " + x + ")", () -> shop.rests(site, n, x) ? 1 : 0,
                        () -> reference.rests(site, n, x) ? 1 : 0);
                }
            }
        }
    }
}
