import java.util.NoSuchElementException;

/** The edges of term 3, to list an ADDRESS, and of promises 10 to 13: a test for each sentence that names one. */
final class ListingEdgesTest {
    private ListingEdgesTest() {
    }

    public static void main(String[] args) {
        Checks.runEach(ListingEdgesTest.class);
        Checks.finish();
    }

    /** Lays words down from an address on and lists it: which instruction, how many words, and the text. */
    private static void lists(String machine, String due, int address, long... words) {
        IsaForge x = Checks.machine(machine);
        for (int i = 0; i < words.length; i++) {
            x.poke(address + i, words[i]);
        }
        Checks.same("list " + address, due, Checks.listed(x, address));
        Checks.same("its bytes", due.substring(due.indexOf(' ') + 1).length(), x.count(7));
    }

    /** Term 3: "INSTRUCTIONS whose WORDS are all laid down from there on". */
    private static void allWordsMustBeLaidDown() {
        String machine = "word 8; num n 8; ins two x:n = 11111111 | x; ins four = 11111111 | 0000 0000 | 00000000|00000001;";
        lists(machine, "0/2 two 0", 0, 255, 0, 0);
        lists(machine, "1/4 four", 0, 255, 0, 0, 1);
        lists(machine, "-1/1 .word 255", 0, 255);
        lists(machine, "1/4 four", 4092, 255, 0, 0, 1);
        lists(machine, "0/2 two 0", 4093, 255, 0, 0);
        lists(machine, "0/2 two 0", 4094, 255, 0);
        lists(machine, "-1/1 .word 255", 4095, 255);
        IsaForge x = Checks.machine(machine);
        x.poke(0, 255);
        x.poke(2, 0);
        x.poke(3, 1);
        Checks.same("a gap", "-1/1 .word 255", Checks.listed(x, 0));
    }

    /** Term 3: "WORDS are all laid down": those of a PROGRAM that is gone are not. */
    private static void wordsThatAreGoneDoNotCount() {
        IsaForge x = Checks.machine("word 8; num n 8; ins two x:n = 11111111 | x;");
        Checks.assembled(x, "two 5");
        Checks.same("two", "0/2 two 5", Checks.listed(x, 0));
        Checks.assembled(x, ".word 255");
        Checks.same("one of them", "-1/1 .word 255", Checks.listed(x, 0));
        // The end does not wrap around to the first address.
        x.poke(4095, 255);
        Checks.same("the last", "-1/1 .word 255", Checks.listed(x, 4095));
    }

    /** Term 3: "whose digits are theirs", the highest and the lowest of each WORD. */
    private static void allDigitsMustBeTheirs() {
        String machine = "word 16; num n 14; ins a x:n = 1 x 1; ins b x:n = 0 x 0 | 1 0000000 00000001;";
        lists(machine, "0/1 a 0", 0, 0x8001);
        lists(machine, "0/1 a 16383", 0, 0xffff);
        lists(machine, "-1/1 .word 32768", 0, 0x8000);
        lists(machine, "-1/1 .word 1", 0, 1);
        lists(machine, "1/2 b 1", 0, 2, 0x8001);
        lists(machine, "-1/1 .word 2", 0, 2, 0x8000);
        lists(machine, "-1/1 .word 2", 0, 2, 1);
        lists(machine, "-1/1 .word 2", 0, 2, 0x8003);
    }

    /** Term 3: "OPERANDS are such (of a reg or set one that there is)", of a reg. */
    private static void aRegisterMustBeThere() {
        String machine = "word 8; reg k r 1; reg l r 3; reg m r 33; reg n r 64;"
            + " ins k x:k = 1000000 x; ins l x:l = 110000 x; ins m x:m = 01 x; ins n x:n = 00 x;";
        lists(machine, "0/1 k r0", 0, 0x80);
        lists(machine, "-1/1 .word 129", 0, 0x81);
        lists(machine, "1/1 l r2", 0, 0xc2);
        lists(machine, "-1/1 .word 195", 0, 0xc3);
        lists(machine, "2/1 m r32", 0, 0x60);
        lists(machine, "-1/1 .word 97", 0, 0x61);
        lists(machine, "3/1 n r63", 0, 0x3f);
        lists(machine, "3/1 n r0", 0, 0);
    }

    /** Term 3: "OPERANDS are such (of a reg or set one that there is)", of a set. */
    private static void aNameOfASetMustBeThere() {
        String machine = "word 8; set s p q; set t p q r; ins s x:s = 1000000 x; ins t x:t = 110000 x;";
        lists(machine, "0/1 s p", 0, 0x80);
        lists(machine, "0/1 s q", 0, 0x81);
        lists(machine, "1/1 t r", 0, 0xc2);
        lists(machine, "-1/1 .word 195", 0, 0xc3);
        // With less digits another one may be such.
        lists(machine + " num n 8; ins n x:n = x;", "2/1 n 195", 0, 0xc3);
        lists("word 8; set t p q r; num n 8; ins n x:n = x; ins t x:t = 110000 x;", "0/1 n 195", 0, 0xc3);
    }

    /** Term 3: "that with the most digits". */
    private static void theMostDigitsCount() {
        String machine = "word 8; num n 8; num m 7; num l 4; ins none x:n = x; ins one x:m = 1 x; ins four x:l = 1111 x;"
            + " ins eight = 11111111; ins sixteen = 11111111 | 11111111;";
        lists(machine, "0/1 none 127", 0, 0x7f);
        lists(machine, "1/1 one 0", 0, 0x80);
        lists(machine, "2/1 four 14", 0, 0xfe);
        lists(machine, "3/1 eight", 0, 0xff);
        lists(machine, "3/1 eight", 0, 0xff, 0xfe);
        lists(machine, "4/2 sixteen", 0, 0xff, 0xff);
        lists("word 8; ins eight = 11111111; num n 8; ins none x:n = x;", "0/1 eight", 0, 0xff);
    }

    /** Term 3: "of these the first". */
    private static void theFirstOfThoseWithAsMany() {
        String machine = "word 8; num n 4; num m 8; ins a x:n = 0000 x; ins b x:n = x 0000; ins c x:m = 0000 x[7:4] | 0000 x[3:0];"
            + " ins d x:m = 00000000 | x;";
        lists(machine, "0/1 a 0", 0, 0);
        lists(machine, "1/1 b 1", 0, 0x10);
        lists(machine, "2/2 c 0", 0, 0, 0);
        lists(machine, "3/2 d 16", 0, 0, 0x10);
    }

    /** Term 3: "its MNEMONIC, a blank (if it has PARTS)". */
    private static void aBlankStandsBeforePartsAlone() {
        lists("word 8; ins a = 00000000;", "0/1 a", 0, 0);
        lists("word 8; ins a @ = 00000000;", "0/1 a @", 0, 0);
    }

    /** Term 3: "signs as they are, a blank behind each comma", the last one too. */
    private static void aBlankStandsBehindEachComma() {
        lists("word 8; ins a , = 00000000;", "0/1 a , ", 0, 0);
        lists("word 8; ins a ,,()[]+-@ = 00000000;", "0/1 a , , ()[]+-@", 0, 0);
        lists("word 8; reg r r 4; ins a x:r y:r,(x1:r) = 00 x y x1;", "0/1 a r1r2, (r3)", 0, 0x1b);
    }

    /** Term 3: "numbers in decimal (with -, if below 0)", the least and the greatest. */
    private static void numbersAreDecimal() {
        String one = "word 8; num n 1; int i 1; ins n x:n = 0000000 x; ins i x:i = 1000000 x;";
        lists(one, "0/1 n 0", 0, 0);
        lists(one, "0/1 n 1", 0, 1);
        lists(one, "1/1 i 0", 0, 0x80);
        lists(one, "1/1 i -1", 0, 0x81);
        String wide = "word 32; num n 32; int i 32; ins n x:n = 1111111111 1111111111 1111111111 11 | x;"
            + " ins i x:i = 0000000000 0000000000 0000000000 00 | x;";
        lists(wide, "0/2 n 4294967295", 0, 4294967295L, 4294967295L);
        lists(wide, "0/2 n 2147483648", 0, 4294967295L, 1L << 31);
        lists(wide, "0/2 n 0", 0, 4294967295L, 0);
        lists(wide, "1/2 i -1", 0, 0, 4294967295L);
        lists(wide, "1/2 i -2147483648", 0, 0, 1L << 31);
        lists(wide, "1/2 i 2147483647", 0, 0, (1L << 31) - 1);
    }

    /** Term 3: "of rel the ADDRESS it names (it may be below 0)", and beyond 4095. */
    private static void relIsTheAddressItNames() {
        String machine = "word 8; rel j 8; ins j x:j = 00000000 | x;";
        lists(machine, "0/2 j 0", 0, 0, 0);
        lists(machine, "0/2 j 127", 0, 0, 127);
        lists(machine, "0/2 j -128", 0, 0, 128);
        lists(machine, "0/2 j -1", 127, 0, 128);
        lists(machine, "0/2 j 0", 128, 0, 128);
        lists(machine, "0/2 j 4221", 4094, 0, 127);
        String wide = "word 32; rel j 32; ins j x:j = x;";
        lists(wide, "0/1 j 2147487742", 4095, (1L << 31) - 1);
        lists(wide, "0/1 j -2147483648", 0, 1L << 31);
        lists(wide, "0/1 j -2147479553", 4095, 1L << 31);
        lists(wide, "0/1 j 4094", 4095, 4294967295L);
    }

    /** Term 3: "If there is none: .word and the WORD in decimal". */
    private static void withoutAnInstructionItIsAWord() {
        lists("word 8;", "-1/1 .word 0", 0, 0);
        lists("word 8;", "-1/1 .word 255", 4095, 255);
        lists("word 32;", "-1/1 .word 4294967295", 0, 4294967295L);
        lists("word 32;", "-1/1 .word 2147483648", 0, 1L << 31);
    }

    /** Promise 10: "how many WORDS it has", from one to four. */
    private static void aListingHas1To4Words() {
        String machine = "word 8; ins a = 00000001; ins b = 00000010|0000 0000; ins c = 00000011|0000 0000|00000000;"
            + " ins d = 00000100|00000000|00000000|00000000;";
        lists(machine, "0/1 a", 0, 1, 0, 0, 0);
        lists(machine, "1/2 b", 0, 2, 0, 0, 0);
        lists(machine, "2/3 c", 0, 3, 0, 0, 0);
        lists(machine, "3/4 d", 0, 4, 0, 0, 0);
    }

    /** Promise 10: "NoSuchElementException as by word"; term 3: "A call that throws changes nothing". */
    private static void listRefusesWhereNothingIs() {
        for (int address : new int[] {-1, 1, 4094, 4096, 4097, Integer.MIN_VALUE, Integer.MAX_VALUE}) {
            Checks.refused("list " + address, NoSuchElementException.class, ListingEdgesTest::listed, x -> x.list(address));
        }
        Checks.refused("list of a new one", NoSuchElementException.class, IsaForge::new, x -> x.list(0));
        IsaForge x = listed();
        Checks.same("the first", 1, x.list(0));
        Checks.same("the last", 1, x.list(4095));
    }

    private static IsaForge listed() {
        IsaForge x = Checks.machine("word 8; ins nop = 11111111;");
        Checks.assembled(x, "nop\n.at 4095\nnop");
        x.list(0);
        Checks.feed(x, "a: nop");
        return x;
    }

    /** Promise 11: "-1 if of none (or there is no LISTING)". */
    private static void whichIsMinus1OfNone() {
        IsaForge x = Checks.machine("word 8; ins a = 00000000; ins b = 00000001;");
        Checks.same("no listing", -1, x.which());
        Checks.assembled(x, "a\nb\n.word 2");
        Checks.same("still none", -1, x.which());
        x.list(0);
        Checks.same("the first", 0, x.which());
        x.list(1);
        Checks.same("the second", 1, x.which());
        x.list(2);
        Checks.same("of none", -1, x.which());
        IsaForge y = Checks.machine("word 8;" + Checks.repeat("ins a=00000000;", 95) + "ins b=00000001;");
        y.poke(0, 1);
        y.list(0);
        Checks.same("the last", 95, y.which());
    }

    /** Promise 12: "Eight BYTES of THE LISTING from byte at (0 to 300) on, the first one highest". */
    private static void listingTakes0To300() {
        IsaForge x = listed();
        Checks.same("listing(0)", 0x6e6f700000000000L, x.listing(0));
        Checks.same("listing(300)", 0, x.listing(300));
        for (int at : new int[] {-1, 301, Integer.MIN_VALUE, Integer.MAX_VALUE}) {
            Checks.refused("listing(" + at + ")", IllegalArgumentException.class, ListingEdgesTest::listed,
                y -> y.listing(at));
        }
        Checks.throwing("without a listing", IllegalArgumentException.class, () -> new IsaForge().listing(301));
    }

    /** Promise 12: "0 behind its end", byte by byte. */
    private static void listingIs0BehindItsEnd() {
        IsaForge x = Checks.machine("word 8; ins abcdefghij = 00000000; ins k = 00000001;");
        x.poke(0, 0);
        x.poke(1, 1);
        x.list(0);
        Checks.same("eight", 0x6162636465666768L, x.listing(0));
        Checks.same("up to the end", 0x636465666768696aL, x.listing(2));
        Checks.same("one behind", 0x6465666768696a00L, x.listing(3));
        Checks.same("the last", 0x6a00000000000000L, x.listing(9));
        Checks.same("behind it", 0, x.listing(10));
        x.list(1);
        Checks.same("nothing of the longer one", 0x6b00000000000000L, x.listing(0));
        Checks.same("nor behind", 0, x.listing(1));
        Checks.same("nor there", 0, x.listing(8));
        Checks.same("of none", 0, new IsaForge().listing(0));
    }

    /** Promise 13: "THE LISTING (nothing, if there is none) comes behind THE TEXT, with a line end". */
    private static void quoteComesBehindTheText() {
        IsaForge x = new IsaForge();
        Checks.same("none", 1, x.quote());
        Checks.same("none again", 2, x.quote());
        Checks.same("no tokens", 0, x.end(2));
        IsaForge y = listed();
        y.end(2);
        Checks.same("behind two", 6, y.quote());
        Checks.same("behind a line end", 10, y.quote());
        Checks.same("read", 2, y.assemble());
        Checks.same("a label and two lines", 1, y.count(4));
        Checks.same("a line end", 4, y.quote());
        y.end(3);
        Checks.same("that was cut", "fault 6 at 0", Checks.assembled(y, "nop"));
        Checks.same("the listing stays", "nop", Checks.listing(y));
    }

    /** Promise 13: "IllegalStateException if they would be more than 6000", the line end with them. */
    private static void quoteTakes6000Bytes() {
        IsaForge x = full(5996);
        Checks.same("up to 6000", 6000, x.quote());
        Checks.throwing("no more", IllegalStateException.class, x::quote);
        for (int bytes : new int[] {5997, 5999, 6000}) {
            Checks.refused("behind " + bytes, IllegalStateException.class, () -> full(bytes), IsaForge::quote);
        }
        IsaForge y = new IsaForge();
        Checks.feed(y, Checks.repeat(" ", 5999));
        Checks.same("of none", 6000, y.quote());
        Checks.throwing("of none, no more", IllegalStateException.class, y::quote);
        Checks.same("bytes", 6000, y.count(6));
    }

    private static IsaForge full(int bytes) {
        IsaForge x = listed();
        x.end(0);
        Checks.feed(x, Checks.repeat(" ", bytes));
        return x;
    }

    /** Promises 10 to 13: the longest LISTING that there is, whole. */
    private static void theLongestListing() {
        String name = Checks.repeat("n", 20);
        String reg = name + "63";
        String machine = "word 32; reg k " + name + " 64; ins " + name + " a:k,b:k,c:k,d:k,e:k,,, = a b c d e 00;";
        String text = name + " " + (reg + ", ").repeat(5) + ", , ";
        lists(machine, "0/1 " + text, 4095, 0xfffffffcL);
        IsaForge x = Checks.machine(machine);
        x.poke(0, 0xfffffffcL);
        x.list(0);
        Checks.same("bytes", 145, x.count(7));
        Checks.same("the last two", 0x2c20000000000000L, x.listing(143));
        Checks.same("quoted", 146, x.quote());
    }
}
