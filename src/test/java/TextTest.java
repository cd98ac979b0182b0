/** Promises 1 to 3, and what a token is. */
final class TextTest {
    private TextTest() {
    }

    public static void main(String[] args) {
        newObject();
        feeding();
        ending();
        tokens();
        Checks.finish();
    }

    private static void newObject() {
        IsaForge x = new IsaForge();
        for (int what = 0; what <= 7; what++) {
            Checks.same("new count " + what, 0, x.count(what));
        }
        Checks.same("new kind", 0, x.kind());
        Checks.same("new place", -1, x.place());
        Checks.same("new which", -1, x.which());
        Checks.same("new listing", 0, x.listing(0));
        Checks.throwing("new assemble", IllegalStateException.class, x::assemble);
        Checks.throwing("new word", java.util.NoSuchElementException.class, () -> x.word(0));
        Checks.throwing("new list", java.util.NoSuchElementException.class, () -> x.list(0));
        Checks.throwing("new told", IndexOutOfBoundsException.class, () -> x.told(0, 0));
        Checks.throwing("new poke", IllegalStateException.class, () -> x.poke(0, 0));
        Checks.same("new end(0)", 0, x.end(0));
    }

    private static void feeding() {
        IsaForge x = new IsaForge();
        for (int i = 1; i <= 299; i++) {
            Checks.same("feed " + i, 20 * i, x.feed(0x61626364, 0x65666768, 0, -1, 0x20202020));
        }
        Checks.throwing("end(5981)", IllegalArgumentException.class, () -> x.end(5981));
        Checks.same("300th feed", 6000, x.feed(1, 2, 3, 4, 5));
        Checks.throwing("301st feed", IllegalStateException.class, () -> x.feed(1, 2, 3, 4, 5));
        Checks.same("bytes after it", 6000, x.count(6));
        x.end(5980);
        Checks.same("feed to the brim", 6000, x.feed(0, 0, 0, 0, 0));
        x.end(5981);
        Checks.throwing("feed beyond", IllegalStateException.class, () -> x.feed(0, 0, 0, 0, 0));
        Checks.same("bytes stay", 5981, x.count(6));
    }

    private static void ending() {
        IsaForge x = new IsaForge();
        // The highest byte of the first argument is the first byte.
        x.feed(0x61206220, 0x63206420, 0x65206620, 0x67206820, 0x69206a20);
        Checks.same("end(20)", 10, x.end(20));
        Checks.throwing("end(21)", IllegalArgumentException.class, () -> x.end(21));
        Checks.throwing("end(-1)", IllegalArgumentException.class, () -> x.end(-1));
        Checks.same("bytes stay", 20, x.count(6));
        Checks.same("end(3)", 2, x.end(3));
        Checks.throwing("end(4) of 3", IllegalArgumentException.class, () -> x.end(4));
        Checks.same("bytes", 3, x.count(6));
        Checks.same("end(0)", 0, x.end(0));
    }

    private static void tokens() {
        counts(0, "");
        counts(0, "  \n \n");
        counts(0, "# a b c");
        counts(2, "a # b\nc# d");
        counts(13, ".,:;=|()[]+-@");
        counts(7, "$!\"%&'~");
        counts(3, "\t\r\0");
        counts(2, "\u0080\u00ff");
        counts(1, "_abc9");
        counts(1, "9abc");
        counts(3, "a.b");
        counts(1, Checks.repeat("x", 21));
        counts(1, "0x123456789");
        counts(3, "12 0x1F 4294967296");
        counts(2, "a#\0\t$\nb");
        // What is a number or a name shows where one must stand.
        isNumber(true, "8");
        isNumber(true, "0000000008");
        isNumber(true, "0x8");
        isNumber(true, "0x00000008");
        isNumber(false, "00000000008");
        isNumber(false, "0x000000008");
        isNumber(false, "0X8");
        isNumber(false, "8x");
        isNumber(false, "8_");
        isNumber(false, "0x");
        Checks.same("4294967295", "fault 3 at 1", Checks.described("word 4294967295;"));
        Checks.same("4294967296", "fault 1 at 1", Checks.described("word 4294967296;"));
        Checks.same("0xfFfFfFfF", "fault 3 at 1", Checks.described("word 0xfFfFfFfF;"));
        Checks.same("0xg", "fault 1 at 1", Checks.described("word 0xg;"));
        String longest = Checks.repeat("n", 20);
        Checks.same("20 bytes", "ok 0", Checks.described("word 8; num " + longest + " 1;"));
        Checks.same("21 bytes", "fault 1 at 4", Checks.described("word 8; num " + longest + "n 1;"));
        Checks.same("_", "ok 0", Checks.described("word 8; num _ 1; num _9 1;"));
        Checks.same("blanks", "ok 0", Checks.described(" word\n8 # ;\n;"));
    }

    private static void counts(int due, String text) {
        Checks.same("tokens of <" + text + ">", due, Checks.feed(new IsaForge(), text));
    }

    private static void isNumber(boolean due, String text) {
        String got = Checks.described("word " + text + ";");
        Checks.same("number " + text, due ? "ok 0" : "fault 1 at 1", got);
    }
}
