import java.util.NoSuchElementException;

/** Promises 10 to 13. */
final class ListTest {
    private ListTest() {
    }

    public static void main(String[] args) {
        written();
        chosen();
        numbers();
        bytes();
        quotes();
        longest();
        Checks.finish();
    }

    private static void is(IsaForge x, int address, String due) {
        Checks.same("list " + address, due, Checks.listed(x, address));
        Checks.same("bytes", due.substring(due.indexOf(' ') + 1).length(), x.count(7));
    }

    private static void written() {
        IsaForge x = Checks.machine(Checks.MACHINE);
        Checks.assembled(x, "start: add r1, r2\nadd r3, 200\nld r15, [r0 + -3]\nj ne @ 129\nb start\nb end\n"
            + ".word 1, 0xFFFF\n.at 40\nend: nop");
        is(x, 0, "0/1 add r1, r2");
        is(x, 1, "1/1 add r3, 200");
        is(x, 2, "4/2 ld r15, [r0+-3]");
        is(x, 3, "-1/1 .word 62464");
        is(x, 4, "5/1 j ne@129");
        is(x, 5, "2/1 b 0");
        is(x, 6, "3/2 b 40");
        is(x, 9, "-1/1 .word 65535");
        is(x, 40, "6/1 nop");
        Checks.throwing("list 41", NoSuchElementException.class, () -> x.list(41));
        Checks.throwing("list -1", NoSuchElementException.class, () -> x.list(-1));
        Checks.throwing("list 4096", NoSuchElementException.class, () -> x.list(4096));
        Checks.same("the listing stays", "nop", Checks.listing(x));
        Checks.same("which stays", 6, x.which());
        IsaForge y = Checks.machine("word 8; reg r r 4; ins a x:r y:r , = 0000 x y; ins b ()[]+-@ = 11111111;");
        y.poke(0, 6);
        y.poke(1, 255);
        is(y, 0, "0/1 a r1r2, ");
        is(y, 1, "1/1 b ()[]+-@");
    }

    private static void chosen() {
        IsaForge x = Checks.machine("word 8; num n 8; num m 4; set s p q r; reg g g 3; num l 7;"
            + " ins all a:n = a; ins some a:m = 0001 a; ins same a:m = a 0001; ins two a:n = 00010001 | a;"
            + " ins set a:s = 111000 a; ins reg a:g = 110000 a;");
        x.poke(0, 0x12);
        is(x, 0, "1/1 some 2");
        x.poke(0, 0x21);
        is(x, 0, "2/1 same 2");
        // The first of two with as many digits; the longer one only if all its words are laid down.
        x.poke(0, 0x11);
        is(x, 0, "1/1 some 1");
        x.poke(1, 9);
        is(x, 0, "3/2 two 9");
        is(x, 1, "0/1 all 9");
        x.poke(4095, 0x11);
        is(x, 4095, "1/1 some 1");
        // A set or a reg only if there is such a one.
        x.poke(2, 0xe2);
        is(x, 2, "4/1 set r");
        x.poke(2, 0xe3);
        is(x, 2, "0/1 all 227");
        x.poke(2, 0xc2);
        is(x, 2, "5/1 reg g2");
        x.poke(2, 0xc3);
        is(x, 2, "0/1 all 195");
    }

    private static void numbers() {
        IsaForge x = Checks.machine("word 32; num n 32; int i 32; rel r 32; ins n a:n = 0000000000 00000000"
            + " 0000000000 0001 | a; ins i a:i = 0000000000 00000000 0000000000 0010 | a;"
            + " ins r a:r = 0000000000 00000000 0000000000 0011 | a;");
        x.poke(5, 1);
        x.poke(6, 4294967295L);
        is(x, 5, "0/2 n 4294967295");
        x.poke(5, 2);
        is(x, 5, "1/2 i -1");
        x.poke(6, 1L << 31);
        is(x, 5, "1/2 i -2147483648");
        x.poke(5, 3);
        is(x, 5, "2/2 r -2147483643");
        x.poke(6, (1L << 31) - 1);
        is(x, 5, "2/2 r 2147483652");
        x.poke(6, 0);
        is(x, 5, "2/2 r 5");
        is(x, 6, "-1/1 .word 0");
        x.poke(6, 4294967295L);
        is(x, 6, "-1/1 .word 4294967295");
        IsaForge y = Checks.machine("word 8; int i 1; rel r 4; ins i a:i = 0000000 a; ins r a:r = 0001 a;");
        y.poke(0, 1);
        is(y, 0, "0/1 i -1");
        y.poke(0, 0);
        is(y, 0, "0/1 i 0");
        y.poke(2, 0x1d);
        is(y, 2, "1/1 r -1");
    }

    private static void bytes() {
        IsaForge x = Checks.machine(Checks.MACHINE);
        Checks.same("no listing", 0, x.listing(0));
        Checks.same("which of none", -1, x.which());
        Checks.assembled(x, "add r1, r2");
        x.list(0);
        Checks.same("listing(0)", 7017844209867631648L, x.listing(0));
        Checks.same("listing(8)", 8228639469159317504L, x.listing(8));
        Checks.same("listing(9)", (long) '2' << 56, x.listing(9));
        Checks.same("listing(10)", 0, x.listing(10));
        Checks.same("listing(300)", 0, x.listing(300));
        Checks.throwing("listing(301)", IllegalArgumentException.class, () -> x.listing(301));
        Checks.throwing("listing(-1)", IllegalArgumentException.class, () -> x.listing(-1));
        // A shorter one leaves nothing of a longer one behind.
        Checks.assembled(x, "nop");
        x.list(0);
        Checks.same("nop", 0x6e6f700000000000L, x.listing(0));
        Checks.same("behind nop", 0, x.listing(8));
        x.poke(0, 65535);
        x.list(0);
        Checks.same("which of none", -1, x.which());
    }

    private static void quotes() {
        IsaForge x = Checks.machine(Checks.MACHINE);
        Checks.same("quote of nothing", 1, x.quote());
        Checks.same("again", 2, x.quote());
        Checks.same("is line ends", 0, x.end(2));
        Checks.same("assembled", "ok 1", Checks.assembled(x, "add r1, 7"));
        x.list(0);
        Checks.same("quote", 10, x.quote());
        Checks.same("quote", 20, x.quote());
        Checks.same("assembled", 2, x.assemble());
        Checks.same("words", "1107 1107", Checks.words(x));
        Checks.same("quote once more", 10, x.quote());
        x.end(9);
        x.feed(0, 0, 0, 0, 0);
        x.end(9);
        Checks.same("a line end came with it", "fault 6 at 0", Checks.assembled(x, "add"));
        String blanks = Checks.repeat(" ", 5990);
        Checks.feed(x, blanks);
        Checks.same("up to 6000", 6000, x.quote());
        Checks.throwing("quote beyond", IllegalStateException.class, x::quote);
        Checks.same("the text stays", 6000, x.count(6));
        x.end(5991);
        Checks.throwing("one too many", IllegalStateException.class, x::quote);
        Checks.same("the text stays", 5991, x.count(6));
    }

    private static void longest() {
        String name = Checks.repeat("n", 20);
        IsaForge x = Checks.machine("word 32; reg k " + name + " 64; ins " + name
            + " a:k,,,b:k,c:k,d:k,,e:k = a b c d e 00;");
        x.poke(0, 0xfffffffcL);
        String reg = name + "63";
        is(x, 0, "0/1 " + name + " " + reg + ", , , " + reg + ", " + reg + ", " + reg + ", , " + reg);
        Checks.same("145 bytes", 145, x.count(7));
    }
}
