import java.nio.charset.StandardCharsets;
import java.util.function.LongSupplier;

/** Help for the tests: feeds texts, and compares answers and exceptions with those that are due. */
final class Shop {
    private static int wrong = 0;
    private static int asked = 0;

    private Shop() {
    }

    /** Puts a text on the tape, filled up to twenties and then cut to its length. */
    static void feed(DelegationShop shop, String text) {
        byte[] bytes = text.getBytes(StandardCharsets.ISO_8859_1);
        int fed = 0;
        for (int i = 0; i < bytes.length; i += 20) {
            fed = shop.feed(four(bytes, i), four(bytes, i + 4), four(bytes, i + 8), four(bytes, i + 12), four(bytes, i + 16));
        }
        shop.end(bytes.length);
        due("the tape has room for the text", fed >= bytes.length ? 1 : 0, 1);
    }

    private static int four(byte[] bytes, int at) {
        int number = 0;
        for (int i = at; i < at + 4; i++) {
            number = number << 8 | (i < bytes.length ? bytes[i] & 255 : ' ');
        }
        return number;
    }

    static int load(DelegationShop shop, String text) {
        feed(shop, text);
        return shop.load();
    }

    /** A new shop of a manner with a text that must be without fault. */
    static DelegationShop of(int manner, String text) {
        DelegationShop shop = new DelegationShop();
        shop.manner(manner);
        int methods = load(shop, text);
        due("load() of " + text, methods > 0 ? 1 : 0, 1);
        return shop;
    }

    /** Where the fault of a text is, -1 if it has none. */
    static int fault(String text) {
        int answer = load(new DelegationShop(), text);
        return answer >= 0 ? -1 : -1 - answer;
    }

    static void due(String call, long got, long want) {
        asked++;
        if (got != want) {
            wrong++;
            if (wrong < 60) {
                System.out.println(call + " answered " + got + ", due is " + want);
            }
        }
    }

    static void same(String call, Object got, Object want) {
        asked++;
        if (!got.equals(want)) {
            wrong++;
            if (wrong < 60) {
                System.out.println(call + " answered " + got + ", due is " + want);
            }
        }
    }

    /** What a call answers, or the name of what it throws. */
    static String told(LongSupplier call) {
        try {
            return Long.toString(call.getAsLong());
        } catch (RuntimeException e) {
            return e.getClass().getSimpleName();
        }
    }

    /** The number that a call answers, 0 if it throws. */
    static int number(LongSupplier call) {
        String told = told(call);
        return Character.isLetter(told.charAt(0)) ? 0 : (int) Long.parseLong(told);
    }

    static void throwing(String call, Class<? extends RuntimeException> want, LongSupplier what) {
        same(call, told(what), want.getSimpleName());
    }

    /** What a run comes to: "0 SORT:WORTH" if it answered, "1 KIND SORT:WORTH" for the failure that left it, "2", "3". */
    static String outcome(DelegationShop shop, int m, long a, long b) {
        int outcome = shop.run(m, a, b);
        if (outcome == 0) {
            return "0 " + shop.latest(0) + ":" + shop.latest(1);
        }
        if (outcome == 1) {
            int f = (int) shop.latest(3);
            return "1 " + shop.failure(f, 0) + " " + shop.failure(f, 1) + ":" + shop.failure(f, 2);
        }
        return String.valueOf(outcome);
    }

    /** The outcome of running statements alone, in the method go(a, b) behind some helping methods. */
    static String doing(String statements, long a, long b) {
        return doing("", 0, statements, a, b);
    }

    static String doing(String methods, int many, String statements, long a, long b) {
        String told = "";
        for (int m = 0; m <= 2; m++) {
            DelegationShop shop = of(m, methods + " method go(a,b){" + statements + "}");
            String now = outcome(shop, many, a, b) + writtenOf(shop);
            same("manner " + m + " of " + statements, now, m == 0 ? now : told);
            due("astray of " + statements, shop.astray(), 0);
            told = now;
        }
        return told;
    }

    /** The values written, as " SORT:WORTH" each. */
    static String writtenOf(DelegationShop shop) {
        StringBuilder all = new StringBuilder();
        for (int i = 0; i < Math.min(300, shop.latest(5)); i++) {
            all.append(" ").append(shop.written(i, 0)).append(":").append(shop.written(i, 1));
        }
        return all.toString();
    }

    static String repeat(String piece, int times) {
        return piece.repeat(times);
    }

    static void finish() {
        System.out.println(asked + " answers, " + wrong + " wrong");
        if (wrong > 0) {
            System.exit(1);
        }
    }
}
