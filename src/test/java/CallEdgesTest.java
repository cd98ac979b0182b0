import java.util.NoSuchElementException;
import java.util.function.Supplier;

/** The edges of promises 1, 6 to 9 and 14 to 17: a test for each sentence that names one. */
final class CallEdgesTest {
    private static final String DIGITS = "1111111111 1111111111 1111111111 11";

    private CallEdgesTest() {
    }

    public static void main(String[] args) {
        Checks.runEach(CallEdgesTest.class);
        Checks.finish();
    }

    /** An object with all that a refused call could change. */
    private static IsaForge busy() {
        IsaForge x = Checks.machine(Checks.MACHINE);
        Checks.assembled(x, "a: nop\nb: add r1, r2\n.at 4095\nc: nop");
        x.list(1);
        x.poke(7, 65535);
        Checks.feed(x, "d: nop\nadd r3, 4");
        return x;
    }

    private static IsaForge busyBehindAFault() {
        IsaForge x = busy();
        x.end(0);
        Checks.assembled(x, "nop\n$");
        x.poke(3, 4);
        Checks.feed(x, "nop");
        return x;
    }

    private static void refused(String what, Class<? extends RuntimeException> due, Checks.Refused call) {
        Checks.refused(what, due, CallEdgesTest::busy, call);
        Checks.refused(what + " behind a fault", due, CallEdgesTest::busyBehindAFault, call);
    }

    /** Promise 1: "No DESCRIPTION, no PROGRAM; THE TEXT is empty". */
    private static void aNewObjectHasNothing() {
        IsaForge x = new IsaForge();
        for (int what = 0; what <= 7; what++) {
            Checks.same("count(" + what + ")", 0, x.count(what));
        }
        Checks.same("kind", 0, x.kind());
        Checks.same("place", -1, x.place());
        Checks.same("which", -1, x.which());
        Checks.same("listing(0)", 0, x.listing(0));
        Checks.same("end(0)", 0, x.end(0));
        Checks.throwing("end(1)", IllegalArgumentException.class, () -> x.end(1));
        Checks.throwing("word(0)", NoSuchElementException.class, () -> x.word(0));
        Checks.throwing("list(0)", NoSuchElementException.class, () -> x.list(0));
        Checks.throwing("poke(0, 0)", IllegalStateException.class, () -> x.poke(0, 0));
        Checks.throwing("assemble()", IllegalStateException.class, x::assemble);
        Checks.throwing("told(0, 0)", IndexOutOfBoundsException.class, () -> x.told(0, 0));
        Checks.throwing("overlap(0, 0)", IndexOutOfBoundsException.class, () -> x.overlap(0, 0) ? 1 : 0);
        Checks.throwing("describe()", UnsupportedOperationException.class, x::describe);
    }

    /** Promise 1: one object knows nothing of another. */
    private static void objectsStandAlone() {
        IsaForge x = busy();
        String before = Checks.state(x);
        IsaForge y = busy();
        Checks.described(y, "word 8;");
        new IsaForge().feed(1, 2, 3, 4, 5);
        Checks.same("the first", before, Checks.state(x));
    }

    /** Promises 6 and 7: "0 without", "-1 without": before any, and behind one without a FAULT. */
    private static void kindIs0AndPlaceMinus1Without() {
        IsaForge x = new IsaForge();
        faultIs(x, 0, -1);
        Checks.described(x, "word 9;");
        faultIs(x, 3, 1);
        Checks.described(x, "word 8;");
        faultIs(x, 0, -1);
        Checks.assembled(x, "nop\n");
        faultIs(x, 6, 0);
        Checks.assembled(x, "");
        faultIs(x, 0, -1);
        Checks.assembled(x, "x:\nx:");
        faultIs(x, 2, 3);
        Checks.described(x, "word 8;");
        faultIs(x, 0, -1);
    }

    private static void faultIs(IsaForge x, int kind, int place) {
        Checks.same("kind", kind, x.kind());
        Checks.same("place", place, x.place());
    }

    /** Promise 6: "of the latest describe or assemble", each kind from 1 to 8. */
    private static void eachKindOfFault() {
        IsaForge x = new IsaForge();
        String[] descriptions = {"", "word 8; num n 4; num n 4;", "word 9;", "word 8; ins a = ;",
            "word 8; num n 8; ins a x:n = 00000000;"};
        for (int kind = 1; kind <= 5; kind++) {
            Checks.described(x, descriptions[kind - 1]);
            Checks.same("of a description", kind, x.kind());
        }
        Checks.described(x, "word 8; num n 4; ins a x:n = 0000 x;");
        String[] programs = {"$", "x:\nx:", ".at 4096", "", "", "a", "a 16", "a 0\n.at 0\na 0"};
        for (int kind = 1; kind <= 8; kind++) {
            Checks.assembled(x, programs[kind - 1]);
            Checks.same("of a program", programs[kind - 1].isEmpty() ? 0 : kind, x.kind());
        }
    }

    /** Promises 6 and 7: other calls, those that throw too, leave them. */
    private static void otherCallsLeaveKindAndPlace() {
        IsaForge x = busyBehindAFault();
        x.end(0);
        x.feed(1, 2, 3, 4, 5);
        x.word(3);
        x.list(3);
        x.quote();
        x.poke(4, 4);
        x.told(0, 0);
        x.overlap(0, 1);
        Checks.throwing("word", NoSuchElementException.class, () -> x.word(0));
        Checks.throwing("end", IllegalArgumentException.class, () -> x.end(-1));
        faultIs(x, 1, 2);
    }

    /** Promise 7: "(from 0 on; line ends are TOKENS of a PROGRAM", and of no DESCRIPTION. */
    private static void lineEndsAreTokensOfAProgramAlone() {
        IsaForge x = Checks.machine("word 8;");
        Checks.assembled(x, "$");
        faultIs(x, 1, 0);
        Checks.assembled(x, "\n# $\n\n$");
        faultIs(x, 1, 3);
        Checks.assembled(x, Checks.repeat("\n", 5999) + "$");
        faultIs(x, 1, 5999);
        Checks.described(x, "\n# $\n\n$");
        faultIs(x, 1, 0);
        Checks.described(x, "word\n8\n;\n\n$");
        faultIs(x, 1, 3);
    }

    /** Promises 7 and 17: "of the end it is how many there are (not one more)". */
    private static void theEndIsHowManyTokensThereAre() {
        IsaForge x = new IsaForge();
        Checks.described(x, "");
        faultIs(x, 1, 0);
        Checks.described(x, "word");
        faultIs(x, 1, 1);
        Checks.described(x, "word 8 # ;\n\n");
        faultIs(x, 1, 2);
        Checks.described(x, "word 8;");
        Checks.assembled(x, ".");
        faultIs(x, 1, 1);
        Checks.assembled(x, "\n.word # 1");
        faultIs(x, 1, 3);
        Checks.assembled(x, "\n.word # 1\n");
        faultIs(x, 1, 3);
        Checks.assembled(x, Checks.repeat("\n", 5998) + ".");
        faultIs(x, 1, 5999);
        Checks.assembled(x, Checks.repeat("\n", 5999) + ".");
        faultIs(x, 1, 6000);
        Checks.described(x, "word" + Checks.repeat(" ", 5996));
        faultIs(x, 1, 1);
    }

    /** Promise 8: "NoSuchElementException if nothing is laid down there (or it is no ADDRESS)". */
    private static void wordRefusesWhereNothingIs() {
        IsaForge x = busy();
        Checks.same("the first", 0, x.word(0));
        Checks.same("the last", 0, x.word(4095));
        int[] others = {-1, 2, 6, 8, 4094, 4096, 4097, 8192, -4096, Integer.MIN_VALUE, Integer.MAX_VALUE};
        for (int address : others) {
            refused("word " + address, NoSuchElementException.class, y -> y.word(address));
        }
    }

    /** Promise 8: "(without sign in the long)". */
    private static void aWordHasNoSign() {
        long[] greatest = {255, 65535, 4294967295L};
        int[] bits = {8, 16, 32};
        for (int i = 0; i < bits.length; i++) {
            IsaForge x = Checks.machine("word " + bits[i] + ";");
            Checks.assembled(x, ".word " + greatest[i] + ", " + (greatest[i] / 2 + 1));
            Checks.same("the greatest", greatest[i], x.word(0));
            Checks.same("its highest bit", greatest[i] / 2 + 1, x.word(1));
        }
    }

    /** Promise 9: "WORD v is laid down at an ADDRESS (instead of what is there): how many WORDS are". */
    private static void pokeTakesEachAddress() {
        IsaForge x = Checks.machine("word 8;");
        Checks.same("the first", 1, x.poke(0, 0));
        Checks.same("the last", 2, x.poke(4095, 255));
        Checks.same("instead", 2, x.poke(4095, 1));
        Checks.same("what is there", 1, x.word(4095));
        Checks.same("count", 2, x.count(3));
    }

    /** Promise 9: all ADDRESSES at once. */
    private static void pokeFillsAllAddresses() {
        IsaForge x = Checks.machine("word 16;");
        for (int address = 0; address < 4096; address++) {
            Checks.same("poke " + address, address + 1, x.poke(address, address));
        }
        Checks.same("count", 4096, x.count(3));
        Checks.same("again", 4096, x.poke(2000, 1));
        Checks.same("the last", 4095, x.word(4095));
        Checks.same("assembled", "ok 0", Checks.assembled(x, ""));
        Checks.same("none is left", 0, x.count(3));
    }

    /** Promise 9: "IllegalStateException without a DESCRIPTION", whatever the arguments. */
    private static void pokeNeedsADescription() {
        Supplier<IsaForge> behindAFault = () -> {
            IsaForge x = busy();
            Checks.described(x, "word 9;");
            return x;
        };
        for (int address : new int[] {0, -1, 4096}) {
            for (long v : new long[] {0, -1, 1L << 32}) {
                Checks.refused("new", IllegalStateException.class, IsaForge::new, x -> x.poke(address, v));
                Checks.refused("fault", IllegalStateException.class, behindAFault, x -> x.poke(address, v));
            }
        }
    }

    /** Promise 9: "IllegalArgumentException if it is no ADDRESS". */
    private static void pokeRefusesWhatIsNoAddress() {
        for (int address : new int[] {-1, 4096, 4097, Integer.MIN_VALUE, Integer.MAX_VALUE}) {
            refused("poke " + address, IllegalArgumentException.class, x -> x.poke(address, 0));
        }
    }

    /** Promise 9: "IllegalArgumentException if ... v not 0 to what a WORD holds". */
    private static void pokeRefusesWhatIsNoWord() {
        int[] bits = {8, 16, 32};
        for (int width : bits) {
            long most = (1L << width) - 1;
            Supplier<IsaForge> maker = () -> {
                IsaForge x = Checks.machine("word " + width + ";");
                x.poke(5, 1);
                return x;
            };
            Checks.same("0", 1, maker.get().poke(5, 0));
            IsaForge x = maker.get();
            Checks.same("the greatest", 1, x.poke(5, most));
            Checks.same("is there", most, x.word(5));
            for (long v : new long[] {-1, most + 1, 1L << 32, (1L << 32) + 1, Long.MIN_VALUE, Long.MAX_VALUE}) {
                Checks.refused("poke of " + v, IllegalArgumentException.class, maker, y -> y.poke(5, v));
            }
        }
    }

    /** Promise 9: a poke changes no labels and no rounds of the PROGRAM, and no LISTING. */
    private static void pokeLeavesTheRest() {
        IsaForge x = busy();
        x.poke(1, 0);
        Checks.same("labels", 3, x.count(4));
        Checks.same("rounds", 1, x.count(5));
        Checks.same("the listing", "add r1, r2", Checks.listing(x));
        Checks.same("bytes", 16, x.count(6));
    }

    /** Promise 14: "10 + w: a bit for each digit of WORD w (that it has)", "20 + w: the digits there". */
    private static void toldOfEachWord() {
        IsaForge x = Checks.machine("word 32; num n 32; ins a = " + DIGITS + "|" + DIGITS.replace('1', '0') + "|0"
            + DIGITS.substring(1) + "|1" + DIGITS.substring(1).replace('1', '0') + "; ins b x:n = x;"
            + " ins c x:n = x[31] 0000000000 0000000000 0000000000 x[30]|1 x[29:0] 0;");
        long[] digits = {4294967295L, 0, (1L << 31) - 1, 1L << 31};
        for (int w = 0; w < 4; w++) {
            Checks.same("bits of " + w, 4294967295L, x.told(0, 10 + w));
            Checks.same("digits of " + w, digits[w], x.told(0, 20 + w));
        }
        Checks.same("all digits", 128, x.told(0, 1));
        Checks.same("four words", 4, x.told(0, 0));
        Checks.same("no bits", 0, x.told(1, 10));
        Checks.same("no digits", 0, x.told(1, 20));
        Checks.same("none", 0, x.told(1, 1));
        Checks.same("those between", 0x7ffffffeL, x.told(2, 10));
        Checks.same("those around", 0x80000001L, x.told(2, 11));
        Checks.same("what they are", 1L << 31, x.told(2, 21));
        Checks.same("thirty and two", 32, x.told(2, 1));
    }

    /** Promise 14: how many WORDS, digits, PARTS and OPERANDS, the fewest and the most. */
    private static void toldOfTheFewestAndTheMost() {
        IsaForge x = Checks.machine("word 8; num n 1; ins a = 00000000; ins b p:n,q:n,r:n,s:n,t:n,,, ="
            + " 000 p q r s t | 11111111 | 0000 0000 | 11111111;");
        long[][] due = {{1, 8, 0, 0}, {4, 27, 12, 5}};
        for (int k = 0; k < 2; k++) {
            for (int what = 0; what <= 3; what++) {
                Checks.same("told(" + k + ", " + what + ")", due[k][what], x.told(k, what));
            }
        }
    }

    /** Promise 14: "IndexOutOfBoundsException if there is no INSTRUCTION k". */
    private static void toldRefusesOtherInstructions() {
        for (int k : new int[] {-1, 7, 96, Integer.MIN_VALUE, Integer.MAX_VALUE}) {
            for (int what : new int[] {0, 3, 10, 20, 4, -1}) {
                refused("told(" + k + ", " + what + ")", IndexOutOfBoundsException.class, x -> x.told(k, what));
            }
        }
        IsaForge x = Checks.machine("word 8;" + Checks.repeat("ins a=00000000;", 96));
        Checks.same("the first", 8, x.told(0, 1));
        Checks.same("the last", 8, x.told(95, 1));
        Checks.throwing("one more", IndexOutOfBoundsException.class, () -> x.told(96, 1));
        Checks.throwing("of none", IndexOutOfBoundsException.class, () -> Checks.machine("word 8;").told(0, 0));
    }

    /** Promise 14: "IllegalArgumentException for others", of WORDS that it has not too. */
    private static void toldRefusesOthers() {
        for (int what : new int[] {-1, 4, 5, 9, 11, 12, 13, 14, 19, 21, 23, 24, 30, Integer.MIN_VALUE, Integer.MAX_VALUE}) {
            refused("told(0, " + what + ")", IllegalArgumentException.class, x -> x.told(0, what));
        }
        for (int what : new int[] {4, 9, 12, 13, 14, 19, 22, 23, 24}) {
            refused("told(4, " + what + ")", IllegalArgumentException.class, x -> x.told(4, what));
        }
        IsaForge x = Checks.machine("word 8; ins a = 00000000|00000000|00000000|00000000;");
        for (int what : new int[] {4, 9, 14, 19, 24}) {
            Checks.throwing("told(0, " + what + ")", IllegalArgumentException.class, () -> x.told(0, what));
        }
    }

    /** Promise 15: "no digit of INSTRUCTION j is another one in k", the highest and the lowest. */
    private static void overlapLooksAtEachDigit() {
        IsaForge x = Checks.machine("word 32; num n 31; num m 32; ins high x:n = 1 x; ins low x:n = x 1; ins none x:m = x;"
            + " ins nothigh x:n = 0 x; ins notlow x:n = x 0;");
        String[] due = {"11101", "11110", "11111", "01111", "10111"};
        for (int j = 0; j < 5; j++) {
            for (int k = 0; k < 5; k++) {
                Checks.same("overlap " + j + " " + k, due[j].charAt(k) == '1', x.overlap(j, k));
            }
        }
    }

    /** Promise 15: "(of the WORDS that both have". */
    private static void overlapLooksAtWordsThatBothHave() {
        IsaForge x = Checks.machine("word 8; ins a = 00000000; ins b = 00000000|11111111|00000000|11111111;"
            + " ins c = 00000000|11111111|00000000|11111110; ins d = 00000000|11111110; ins e = 00000000|11111111|00000001;");
        String[] due = {"11111", "11000", "10100", "10010", "10001"};
        for (int j = 0; j < 5; j++) {
            for (int k = 0; k < 5; k++) {
                Checks.same("overlap " + j + " " + k, due[j].charAt(k) == '1', x.overlap(j, k));
            }
        }
    }

    /** Promise 15: "of one and itself true". */
    private static void overlapOfOneAndItself() {
        IsaForge x = Checks.machine(Checks.MACHINE);
        for (int k = 0; k < 7; k++) {
            Checks.same("overlap " + k + " " + k, true, x.overlap(k, k));
        }
    }

    /** Promise 15: "IndexOutOfBoundsException if there is none of them", of the one, the other, or both. */
    private static void overlapRefusesOtherInstructions() {
        for (int k : new int[] {-1, 7, 96, Integer.MIN_VALUE, Integer.MAX_VALUE}) {
            refused("overlap(0, " + k + ")", IndexOutOfBoundsException.class, x -> x.overlap(0, k) ? 1 : 0);
            refused("overlap(" + k + ", 6)", IndexOutOfBoundsException.class, x -> x.overlap(k, 6) ? 1 : 0);
            refused("overlap(" + k + ", " + k + ")", IndexOutOfBoundsException.class, x -> x.overlap(k, k) ? 1 : 0);
        }
        IsaForge x = Checks.machine("word 8;" + Checks.repeat("ins a=00000000;", 96));
        Checks.same("the last", true, x.overlap(95, 0));
        Checks.throwing("one more", IndexOutOfBoundsException.class, () -> x.overlap(96, 0) ? 1 : 0);
    }

    /** Promise 16: what 0 to 7, and "IllegalArgumentException for others". */
    private static void countTakes0To7() {
        long[] due = {7, 16, 6, 4, 3, 1, 16, 10};
        IsaForge x = busy();
        for (int what = 0; what <= 7; what++) {
            Checks.same("count(" + what + ")", due[what], x.count(what));
        }
        for (int what : new int[] {-1, 8, 9, Integer.MIN_VALUE, Integer.MAX_VALUE}) {
            refused("count(" + what + ")", IllegalArgumentException.class, y -> y.count(what));
            Checks.throwing("of a new one", IllegalArgumentException.class, () -> new IsaForge().count(what));
        }
    }

    /** Promise 16: "1: bits of a WORD (0 without a DESCRIPTION)". */
    private static void bitsAre0WithoutADescription() {
        IsaForge x = new IsaForge();
        Checks.same("new", 0, x.count(1));
        Checks.described(x, "word 32;");
        Checks.same("with", 32, x.count(1));
        Checks.described(x, "word 32; $");
        Checks.same("behind a fault", 0, x.count(1));
    }

    /** Promise 16: "4: LABELS of the latest PROGRAM (0 if it had a FAULT), 5: ... 0 likewise". */
    private static void labelsAndRoundsAre0BehindAFault() {
        IsaForge x = Checks.machine("word 8; num n 4; num m 8; ins v x:n = 0000 x; ins v x:m = 11111111 | x;");
        Checks.same("before any", 0, x.count(5));
        Checks.assembled(x, "a: v 15\nb:\nc: .at 9\n_:");
        Checks.same("labels", 4, x.count(4));
        Checks.same("1 if at once", 1, x.count(5));
        Checks.assembled(x, "a: v 16");
        Checks.same("one label", 1, x.count(4));
        Checks.same("two rounds", 2, x.count(5));
        for (String fault : new String[] {"a:\n$", "a:\na:", "a: .at 4096", "a: w", "a: v 256", "a: v 16\n.at 1\nv 1"}) {
            Checks.assembled(x, "a: v 16");
            Checks.same("with two rounds", 2, x.count(5));
            Checks.assembled(x, fault);
            Checks.same("labels of <" + fault + ">", 0, x.count(4));
            Checks.same("rounds of <" + fault + ">", 0, x.count(5));
        }
        Checks.assembled(x, "");
        Checks.same("no labels", 0, x.count(4));
        Checks.same("one round", 1, x.count(5));
    }

    /** "An object is used for at most 512 calls": the 512th answers as the first does. */
    private static void anObjectTakes512Calls() {
        IsaForge x = new IsaForge();
        String machine = "word 8;ins n=00000001;";
        int calls = 0;
        for (int i = 0; i < 85; i++) {
            x.feed(0x776f7264, 0x20383b69, 0x6e73206e, 0x3d303030, 0x30303030);
            x.feed(0x313b2020, 0x20202020, 0x20202020, 0x20202020, 0x20202020);
            Checks.same(machine, 1, x.describe());
            x.feed(0x6e0a6e0a, 0x6e0a6e0a, 0x6e0a6e0a, 0x6e0a6e0a, 0x6e0a6e0a);
            Checks.same("ten lines", 10, x.assemble());
            Checks.same("listed", 1, x.list(9));
            calls += 6;
        }
        Checks.same("the calls but two", 510, calls);
        Checks.same("the 511th", 1, x.word(9));
        Checks.same("the 512th", 0x6e00000000000000L, x.listing(0));
    }
}
