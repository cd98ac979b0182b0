import java.util.NoSuchElementException;

/** Promises 8 and 9. */
final class WordTest {
    private WordTest() {
    }

    public static void main(String[] args) {
        words();
        pokes();
        widths();
        Checks.finish();
    }

    private static void words() {
        IsaForge x = Checks.machine("word 32;");
        Checks.same("assembled", "ok 3", Checks.assembled(x, ".word 0, 0xffffffff\n.at 4095\n.word 5"));
        Checks.same("word 0", 0, x.word(0));
        Checks.same("word 1, without sign", 4294967295L, x.word(1));
        Checks.same("word 4095", 5, x.word(4095));
        for (int address : new int[] {2, 4094, 4096, -1, Integer.MAX_VALUE, Integer.MIN_VALUE}) {
            Checks.throwing("word " + address, NoSuchElementException.class, () -> x.word(address));
        }
    }

    private static void pokes() {
        IsaForge x = Checks.machine("word 16; ins a = 00000000 00000001;");
        Checks.same("poke 9", 1, x.poke(9, 65535));
        Checks.same("poke 9 again", 1, x.poke(9, 3));
        Checks.same("instead", 3, x.word(9));
        Checks.same("poke 0", 2, x.poke(0, 0));
        Checks.same("poke 4095", 3, x.poke(4095, 1));
        Checks.same("count", 3, x.count(3));
        for (int address : new int[] {4096, -1, Integer.MAX_VALUE, Integer.MIN_VALUE}) {
            Checks.throwing("poke " + address, IllegalArgumentException.class, () -> x.poke(address, 0));
        }
        for (long v : new long[] {65536, -1, 1L << 32, Long.MIN_VALUE, Long.MAX_VALUE}) {
            Checks.throwing("poke of " + v, IllegalArgumentException.class, () -> x.poke(9, v));
        }
        Checks.same("nothing changed", 3, x.word(9));
        Checks.same("count stays", 3, x.count(3));
        Checks.same("kind stays", 0, x.kind());
        Checks.same("an assemble clears", "ok 1", Checks.assembled(x, "a"));
        Checks.throwing("gone", NoSuchElementException.class, () -> x.word(9));
        Checks.same("poke over a program", 1, x.poke(0, 7));
        Checks.same("its labels stay", 0, x.count(4));
        Checks.same("its rounds stay", 1, x.count(5));
        IsaForge y = new IsaForge();
        Checks.throwing("without description", IllegalStateException.class, () -> y.poke(0, 0));
        Checks.throwing("before the address", IllegalStateException.class, () -> y.poke(-1, -1));
    }

    private static void widths() {
        IsaForge x = Checks.machine("word 8;");
        Checks.same("poke 255", 1, x.poke(0, 255));
        Checks.throwing("poke 256", IllegalArgumentException.class, () -> x.poke(0, 256));
        IsaForge y = Checks.machine("word 32;");
        Checks.same("poke 2^32 - 1", 1, y.poke(0, 4294967295L));
        Checks.same("word 2^32 - 1", 4294967295L, y.word(0));
        Checks.throwing("poke 2^32", IllegalArgumentException.class, () -> y.poke(0, 1L << 32));
    }
}
