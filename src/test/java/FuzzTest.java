/** Random texts, runs and changes: the shop must tell what the reference tells, in every manner. */
public final class FuzzTest {
    private static final String[] PIECES = {"method ", " var ", " if ", " else ", " while ", " return ", " answer ", " write ",
        " fail ", " guard ", " on ", " ensure ", " set ", " add ", " give ", " drop ", " link ", " unlink ", " clone ", " new ",
        " nil ", " self ", " lobby ", " above ", "{", "}", "(", ")", "[", "]", "|", ",", ";", ".", "!", "=", "==", "<", ">", "+",
        "-", "*", "/", "%", " ", "\n", "\t", "?", "A", "\u00e9", "a", "nab", "nbb", "ocb", "abcdefgh", "abcdefghi", "7",
        "123456789", "1234567890", "e{}", "|x|", "a.b(c)", "x=1;", ".p", ".p(1,2)", "!()", "20", "100"};
    private static boolean ended = false;
    // some texts after one another come to the same shop
    private static Twins twins = null;
    private static int compared = 0;
    private static int faults = 0;
    private static long causes = 0;
    private static final long[] outcomes = new long[4];
    private static final long[] kinds = new long[100];
    private static final long[] states = new long[4];

    public static void main(String[] args) throws InterruptedException {
        int from = args.length > 0 ? Integer.parseInt(args[0]) : 1;
        int many = args.length > 1 ? Integer.parseInt(args[1]) : 250;
        // the reference walks its tree by recursion
        Thread thread = new Thread(null, () -> fuzz(from, many), "fuzz", 1L << 28);
        thread.start();
        thread.join();
        Shop.due("the fuzz came to its end", ended ? 1 : 0, 1);
        Shop.finish();
    }

    private static void fuzz(int from, int many) {
        for (int seed = from; seed < from + many; seed++) {
            if (!one(seed)) {
                System.out.println("seed " + seed + " differs");
            }
            if (!control(seed)) {
                System.out.println("seed " + seed + " differs in its text of guards and blocks");
            }
            for (int n = 0; n < 20; n++) {
                spoil(seed * 100 + n);
            }
        }
        ended = true;
        System.out.println(compared + " texts compared, " + faults + " with a fault");
        System.out.println("outcomes " + java.util.Arrays.toString(outcomes) + ", states " + java.util.Arrays.toString(states));
        System.out.println("failures with a cause " + causes);
        System.out.println("kinds of failures " + java.util.Arrays.toString(java.util.Arrays.copyOf(kinds, 24)));
    }

    private static boolean one(int seed) {
        RandomText random = new RandomText(seed);
        String text = random.text();
        if (seed % 4 == 0 || twins == null) {
            twins = new Twins("seeds from " + seed);
        }
        twins.manner(seed % 3 == 0 ? 2 : random.below(3));
        twins.load(text.substring(0, Math.min(6000, text.length())));
        compared++;
        if (Shop.told(() -> twins.reference.count(0)).startsWith("Ill")) {
            faults++;
            return twins.wrong == 0;
        }
        int methods = twins.reference.count(0);
        for (int n = 0; n < 12 && twins.wrong == 0; n++) {
            act(twins, random, methods);
            if (n % 3 == 2) {
                twins.compare();
            }
        }
        for (int i = 0; i < twins.reference.count(2); i++) {
            states[twins.reference.site(i, 2)]++;
        }
        Shop.due("seed " + seed + ": differences", twins.wrong, 0);
        return twins.wrong == 0;
    }

    /** Guards, blocks, returns and failures within one another. */
    private static boolean control(int seed) {
        RandomText random = new RandomText(seed + 5555555L);
        String text = new RandomControl(random).text();
        Twins twins = new Twins("guards and blocks " + seed);
        twins.manner(random.below(3));
        twins.load(text.substring(0, Math.min(6000, text.length())));
        compared++;
        if (Shop.told(() -> twins.reference.count(0)).startsWith("Ill")) {
            faults++;
            return twins.wrong == 0;
        }
        int methods = twins.reference.count(0);
        twins.run(methods - 1, 0, 0);
        for (int n = 0; n < 8 && twins.wrong == 0; n++) {
            twins.run(n == 5 ? methods - 1 : random.below(methods - 1), random.below(4), random.below(4));
            note(twins);
            twins.compare();
        }
        return twins.wrong == 0;
    }

    /** Texts that are spoilt a little: the fault must be at the same place. */
    private static void spoil(int seed) {
        RandomText random = new RandomText(seed + 7777777L);
        String text = random.text();
        int length = random.chance(80) ? text.length() : 60 + random.below(900);
        StringBuilder tape = new StringBuilder(text.substring(0, Math.min(length, text.length())));
        for (int n = 1 + random.below(2); n > 0; n--) {
            int at = random.below(tape.length());
            String bit = PIECES[random.below(PIECES.length)];
            int k = random.below(3);
            if (k == 0) {
                tape.deleteCharAt(at);
            } else if (k == 1) {
                tape.insert(at, bit);
            } else {
                tape.replace(at, Math.min(tape.length(), at + 1 + random.below(4)), bit);
            }
        }
        Twins twins = new Twins("spoilt " + seed);
        twins.load(tape.substring(0, Math.min(6000, tape.length())));
        compared++;
        if (Shop.told(() -> twins.reference.count(0)).startsWith("Ill")) {
            faults++;
        } else {
            twins.compare();
        }
    }

    private static void act(Twins twins, RandomText random, int methods) {
        int k = random.below(100);
        if (k < 60) {
            twins.run(random.below(methods), random.below(9), random.chance(5) ? Long.MIN_VALUE : random.below(9));
            if (twins.outcome >= 0) {
                note(twins);
            }
        } else if (k < 94) {
            int objects = twins.reference.count(4);
            for (int n = random.below(4); n >= 0; n--) {
                twins.change(random.below(Math.min(9, objects)), random.below(5), random.below(7), random.below(methods + 1));
            }
        } else if (k < 97) {
            twins.forget();
        } else {
            twins.manner(random.below(4));
        }
    }

    private static void note(Twins twins) {
        outcomes[twins.outcome]++;
        for (long[] f : twins.reference.failures) {
            kinds[(int) f[0]]++;
            causes += f[5] >= 0 ? 1 : 0;
        }
    }
}
