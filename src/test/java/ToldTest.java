/** Promises 14 to 16. */
final class ToldTest {
    private ToldTest() {
    }

    public static void main(String[] args) {
        told();
        overlaps();
        counts();
        Checks.finish();
    }

    private static void told() {
        IsaForge x = Checks.machine(Checks.MACHINE);
        is(x, 0, 1, 8, 3, 2, 0xf00f, 0);
        is(x, 1, 1, 4, 3, 2, 0xf000, 0x1000);
        is(x, 2, 1, 12, 1, 1, 0xfff0, 0x20f0);
        is(x, 3, 2, 16, 1, 1, 0xffff, 0x3000);
        is(x, 4, 2, 18, 7, 3, 0xf000, 0x4000);
        is(x, 5, 1, 6, 3, 2, 0xf003, 0x5000);
        is(x, 6, 1, 16, 0, 0, 0xffff, 0);
        Checks.same("second mask", 0xf3ff, x.told(4, 11));
        Checks.same("second digits", 0xf000, x.told(4, 21));
        Checks.same("no digit", 0, x.told(3, 11));
        for (int what : new int[] {4, 9, -1, 11, 14, 19, 21, 24, 30, 99, Integer.MIN_VALUE}) {
            Checks.throwing("told 0 " + what, IllegalArgumentException.class, () -> x.told(0, what));
        }
        for (int k : new int[] {7, -1, 96, Integer.MAX_VALUE}) {
            Checks.throwing("told " + k, IndexOutOfBoundsException.class, () -> x.told(k, 0));
            Checks.throwing("told " + k + " 5", IndexOutOfBoundsException.class, () -> x.told(k, 5));
        }
        IsaForge y = Checks.machine("word 32; ins a = 1111111111 1111111111 1111111111 11 |"
            + " 0000000000 0000000000 0000000000 01 | 1000000000 0000000000 0000000000 00 |"
            + " 0111111111 1111111111 1111111111 11; num n 32; ins b x:n = x;");
        Checks.same("word 0", 4294967295L, y.told(0, 20));
        Checks.same("word 1", 1, y.told(0, 21));
        Checks.same("word 2", 1L << 31, y.told(0, 22));
        Checks.same("word 3", (1L << 31) - 1, y.told(0, 23));
        Checks.same("mask 3", 4294967295L, y.told(0, 13));
        Checks.same("digits", 128, y.told(0, 1));
        Checks.same("without digits", 0, y.told(1, 1));
        Checks.same("mask without digits", 0, y.told(1, 10));
        Checks.throwing("told 0 14", IllegalArgumentException.class, () -> y.told(0, 14));
    }

    private static void is(IsaForge x, int k, long... due) {
        int[] what = {0, 1, 2, 3, 10, 20};
        for (int i = 0; i < what.length; i++) {
            Checks.same("told " + k + " " + what[i], due[i], x.told(k, what[i]));
        }
    }

    private static void overlaps() {
        IsaForge x = Checks.machine("word 8; num n 4; ins a x:n = 0000 x; ins b x:n = x 0000; ins c x:n = 0001 x;"
            + " ins d = 00000000 | 11111111; ins e = 00000000 | 11111110; ins f x:n = 0000 x | 1111 1111;");
        String due = "110111 111111 011000 110101 110010 110101";
        StringBuilder got = new StringBuilder();
        for (int j = 0; j < 6; j++) {
            for (int k = 0; k < 6; k++) {
                got.append(x.overlap(j, k) ? 1 : 0);
            }
            got.append(j < 5 ? " " : "");
        }
        Checks.same("overlaps", due, got.toString());
        for (int k : new int[] {6, -1, Integer.MAX_VALUE}) {
            Checks.throwing("overlap 0 " + k, IndexOutOfBoundsException.class, () -> x.overlap(0, k) ? 1 : 0);
            Checks.throwing("overlap " + k + " 0", IndexOutOfBoundsException.class, () -> x.overlap(k, 0) ? 1 : 0);
        }
    }

    private static void counts() {
        IsaForge x = Checks.machine(Checks.MACHINE);
        Checks.same("instructions", 7, x.count(0));
        Checks.same("bits", 16, x.count(1));
        Checks.same("kinds", 6, x.count(2));
        Checks.same("no words", 0, x.count(3));
        Checks.same("no labels", 0, x.count(4));
        Checks.same("no rounds", 0, x.count(5));
        Checks.same("assembled", "ok 4", Checks.assembled(x, "a: nop\nb: nop\nb a\nnop"));
        Checks.same("words", 4, x.count(3));
        Checks.same("labels", 2, x.count(4));
        Checks.same("rounds", 1, x.count(5));
        Checks.feed(x, "abc");
        Checks.same("bytes of the text", 3, x.count(6));
        Checks.same("no listing", 0, x.count(7));
        x.list(0);
        Checks.same("bytes of the listing", 3, x.count(7));
        Checks.throwing("count 8", IllegalArgumentException.class, () -> x.count(8));
        Checks.throwing("count -1", IllegalArgumentException.class, () -> x.count(-1));
    }
}
