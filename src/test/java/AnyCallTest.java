import java.util.NoSuchElementException;
import java.util.Random;

/** Calls in any order with any arguments: only the exceptions of the face, and no change by those. */
final class AnyCallTest {
    private static final int CALLS = 512;
    private static final String[] PIECES = {
        "word 8;", "word 16; ", "reg r r 16;", " num n 8;", "rel j 4;", "set c eq ne;", "ins a x:r = 0000 x;",
        "ins a x:n = 00000001|x;", "ins b l:j = 1111 l;", "nop", "a ", "b ", "r1", "r15", "eq", ".word 1,2", ".at 9",
        ".at 4095", "\n", "\n", ":", ";", "=", "|", "[", "]", "(", ")", "+", "-", "@", ",", ".", "$", "\0", "\u00ff",
        "0", "1", "01", "7", "300", "0x1F", "4294967296", "x", "y", "l", "# c\n", "x:", "y: ", " ", "toolongtoolongtoolong"};

    private AnyCallTest() {
    }

    public static void main(String[] args) {
        for (int seed = 1; seed <= 300; seed++) {
            run(new Random(seed), "seed " + seed);
        }
        fullTexts();
        Checks.finish();
    }

    private static void run(Random random, String name) {
        IsaForge x = new IsaForge();
        for (int i = 0; i < CALLS; i++) {
            String before = state(x);
            int method = random.nextInt(16);
            String thrown = call(x, method, random);
            if (thrown.isEmpty()) {
                continue;
            }
            Checks.same(name + " method " + method + " may throw " + thrown, true, mayThrow(method, thrown));
            boolean fault = thrown.equals("UnsupportedOperationException");
            if (fault) {
                Checks.same(name + " has a kind", true, x.kind() > 0 && x.place() >= 0);
            } else {
                Checks.same(name + " method " + method + " changed nothing", before, state(x));
            }
        }
    }

    private static boolean mayThrow(int method, String thrown) {
        switch (method) {
            case 0:
            case 1:
            case 10:
                return thrown.equals("IllegalStateException");
            case 2:
            case 9:
            case 13:
                return thrown.equals("IllegalArgumentException");
            case 3:
                return thrown.equals("UnsupportedOperationException");
            case 4:
                return thrown.equals("UnsupportedOperationException") || thrown.equals("IllegalStateException");
            case 5:
            case 7:
                return thrown.equals("NoSuchElementException");
            case 6:
                return thrown.equals("IllegalArgumentException") || thrown.equals("IllegalStateException");
            case 11:
                return thrown.equals("IndexOutOfBoundsException") || thrown.equals("IllegalArgumentException");
            case 12:
                return thrown.equals("IndexOutOfBoundsException");
            default:
                return false;
        }
    }

    private static String call(IsaForge x, int method, Random random) {
        try {
            switch (method) {
                case 0:
                case 15:
                    feedPiece(x, random);
                    break;
                case 1:
                    x.feed(random.nextInt(), random.nextInt(), random.nextInt(), random.nextInt(), random.nextInt());
                    break;
                case 2:
                    x.end(some(random, x.count(6) + 1));
                    break;
                case 3:
                    x.describe();
                    break;
                case 4:
                    x.assemble();
                    break;
                case 5:
                    x.word(some(random, 12));
                    break;
                case 6:
                    x.poke(some(random, 4100), random.nextBoolean() ? random.nextInt(300) : random.nextLong());
                    break;
                case 7:
                    x.list(some(random, 12));
                    break;
                case 8:
                    x.which();
                    break;
                case 9:
                    x.listing(some(random, 320));
                    break;
                case 10:
                    x.quote();
                    break;
                case 11:
                    x.told(some(random, 4), some(random, 30));
                    break;
                case 12:
                    x.overlap(some(random, 4), some(random, 4));
                    break;
                case 13:
                    x.count(some(random, 10));
                    break;
                default:
                    x.place();
                    break;
            }
        } catch (RuntimeException e) {
            return e.getClass().getSimpleName();
        }
        return "";
    }

    /** Mostly a number from 0 on, at times one far away. */
    private static int some(Random random, int most) {
        int kind = random.nextInt(20);
        return kind == 0 ? random.nextInt() : kind == 1 ? -1 : random.nextInt(most + 1);
    }

    private static void feedPiece(IsaForge x, Random random) {
        if (x.count(6) == 0 && random.nextInt(3) == 0 && x.count(0) == 0) {
            Checks.feed(x, Checks.MACHINE);
            x.describe();
        }
        if (x.count(6) < 5000) {
            for (int i = random.nextInt(6); i >= 0; i--) {
                Checks.feed(x, PIECES[random.nextInt(PIECES.length)]);
            }
        }
    }

    private static String state(IsaForge x) {
        StringBuilder all = new StringBuilder();
        for (int what = 0; what <= 7; what++) {
            all.append(x.count(what)).append(' ');
        }
        all.append(x.kind()).append(' ').append(x.place()).append(' ').append(x.which());
        all.append(' ').append(x.listing(0)).append(' ').append(x.listing(8));
        for (int address = 0; address < 4; address++) {
            try {
                all.append(' ').append(x.word(address));
            } catch (NoSuchElementException e) {
                all.append(" -");
            }
        }
        return all.toString();
    }

    /** The texts that make the most tokens, lines, labels and rounds. */
    private static void fullTexts() {
        IsaForge x = Checks.machine(Checks.MACHINE);
        Checks.same("6000 line ends", "ok 0", Checks.assembled(x, Checks.repeat("\n", 6000)));
        Checks.same("one token that is none", "fault 1 at 5999", Checks.assembled(x, Checks.repeat("\n", 5999) + "$"));
        Checks.same("6000 none", "fault 1 at 0", Checks.assembled(x, Checks.repeat("$", 6000)));
        Checks.same("6000 signs", "fault 1 at 0", Checks.described(x, Checks.repeat(";", 6000)));
        IsaForge y = Checks.machine("word 8; ins n = 00000001; rel j 3; rel k 16; ins j l:j = 10000 l;"
            + " ins j l:k = 11111111 | l[15:8] | l[7:0];");
        Checks.same("3000 lines", "ok 3000", Checks.assembled(y, Checks.repeat("n\n", 3000)));
        Checks.same("one long row", "fault 1 at 0", Checks.assembled(y, Checks.repeat("n", 6000)));
        Checks.same("2000 words", "ok 2000", Checks.assembled(y, ".word 0" + Checks.repeat(",0", 1999)));
        StringBuilder labels = new StringBuilder();
        for (int i = 0; i < 1000; i++) {
            labels.append("l").append(Integer.toString(i, 36)).append(":\n");
        }
        Checks.same("1000 labels", "ok 0", Checks.assembled(y, labels.toString()));
        Checks.same("their count", 1000, y.count(4));
        Checks.same("one twice", "fault 2 at 3000", Checks.assembled(y, labels + "l0:\n"));
        // Each line just reaches the third one behind it; when that before the last grows, all others
        // do in turn, the two before those that grew in the round before.
        StringBuilder chain = new StringBuilder();
        for (int i = 0; i < 300; i++) {
            chain.append("l").append(i).append(":j l").append(i + 3).append("\n");
        }
        chain.append("l300:n\nl301:j l301 - 5\nl302:n\n");
        Checks.same("a chain", "ok 905", Checks.assembled(y, chain.toString()));
        Checks.same("its rounds", 153, y.count(5));
    }
}
