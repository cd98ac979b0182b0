import java.util.function.Supplier;

/** The edges of TEXTS and their TOKENS, and of promises 2 and 3: a test for each sentence that names one. */
final class TextEdgesTest {
    private static final String LONGEST = Checks.repeat("n", 20);

    private TextEdgesTest() {
    }

    public static void main(String[] args) {
        Checks.runEach(TextEdgesTest.class);
        Checks.finish();
    }

    private static void tokens(int due, String text) {
        Checks.same("tokens of <" + text + ">", due, Checks.feed(new IsaForge(), text));
    }

    /** What a program on words of 32 bits lays down with one .word; a fault, if it has one. */
    private static String laid(String number) {
        IsaForge x = Checks.machine("word 32;");
        String outcome = Checks.assembled(x, ".word " + number);
        return outcome.equals("ok 1") ? String.valueOf(x.word(0)) : outcome;
    }

    private static void isNumber(String text, long value) {
        tokens(1, text);
        Checks.same("number " + text, String.valueOf(value), laid(text));
    }

    /** One token, at which a number or a name must stand and does not. */
    private static void isNone(String text) {
        tokens(1, text);
        Checks.same("no number " + text, "fault 1 at 2", laid(text));
        Checks.same("no name " + text, "fault 1 at 4", Checks.described("word 8; num " + text + " 1;"));
        Checks.same("no label " + text, "fault 1 at 0", Checks.assembled(Checks.machine("word 8;"), text + ":"));
    }

    private static void isName(String text) {
        tokens(1, text);
        Checks.same("name " + text, "ok 0", Checks.described("word 8; num " + text + " 1;"));
        Checks.same("label " + text, "ok 0", Checks.assembled(Checks.machine("word 8;"), text + ":"));
        Checks.same("no number " + text, "fault 1 at 2", laid(text));
    }

    private static IsaForge withText(int bytes) {
        IsaForge x = Checks.machine("word 8;");
        Checks.feed(x, ".word 7, 8" + Checks.repeat(" ", bytes - 10));
        return x;
    }

    /** TEXTS, "at most 6000 BYTES"; promise 2, "IllegalStateException if they would be more than 6000". */
    private static void theTextTakes6000Bytes() {
        IsaForge x = new IsaForge();
        for (int i = 1; i <= 300; i++) {
            Checks.same("feed " + i, 20 * i, x.feed(0, 0, 0, 0, 0));
        }
        Checks.throwing("feed 301", IllegalStateException.class, () -> x.feed(0, 0, 0, 0, 0));
        Checks.same("bytes", 6000, x.count(6));
        Checks.same("tokens", 6000, x.end(6000));
    }

    /** Promise 2: the last length at which twenty BYTES are taken, and the first at which they are not. */
    private static void feedTakesAllTwentyOrNone() {
        Checks.same("behind 5980", 6000, withText(5980).feed(0, 0, 0, 0, 0));
        for (int bytes : new int[] {5981, 5999, 6000}) {
            Supplier<IsaForge> maker = () -> withText(bytes);
            Checks.refused("feed behind " + bytes, IllegalStateException.class, maker, x -> x.feed(1, 2, 3, 4, 5));
        }
    }

    /** Promise 2, "IllegalStateException": a text that was cut takes bytes again. */
    private static void feedTakesAgainBehindACutText() {
        IsaForge x = withText(6000);
        Checks.throwing("full", IllegalStateException.class, () -> x.feed(0, 0, 0, 0, 0));
        x.end(5980);
        Checks.same("cut", 6000, x.feed(0x20202020, 0x20202020, 0x20202020, 0x20202020, 0x20202020));
        Checks.same("read", 2, x.assemble());
        Checks.same("empty", 20, x.feed(0, 0, 0, 0, 0));
    }

    /** Promise 2: "the highest of a first", each of the twenty in its place. */
    private static void feedPutsTheHighestByteFirst() {
        IsaForge x = Checks.machine("word 8;");
        // .word 1,2,3,4,5,6,78
        x.feed(0x2e776f72, 0x6420312c, 0x322c332c, 0x342c352c, 0x362c3738);
        Checks.same("all twenty", 7, x.assemble());
        Checks.same("in their order", "1 2 3 4 5 6 4e", Checks.words(x));
    }

    /** Promise 2: the BYTES of arguments below 0, and of the least and the greatest. */
    private static void feedTakesAnyArguments() {
        for (int a : new int[] {-1, Integer.MIN_VALUE, Integer.MAX_VALUE, 0}) {
            IsaForge x = new IsaForge();
            Checks.same("feed of " + a, 20, x.feed(a, a, a, a, a));
            Checks.same("tokens of " + a, 20, x.end(20));
        }
    }

    /** TEXTS, "BYTES (10 and 32 to 126)", "so is any other BYTE": what each BYTE does between two names. */
    private static void eachByteSplitsJoinsOrEnds() {
        for (int c = 0; c < 256; c++) {
            boolean joins = c >= '0' && c <= '9' || c >= 'A' && c <= 'Z' || c >= 'a' && c <= 'z' || c == '_';
            int due = joins || c == '#' ? 1 : c == '\n' || c == ' ' ? 2 : 3;
            Checks.same("byte " + c, due, Checks.feed(new IsaForge(), "n" + (char) c + "n"));
        }
    }

    /** TEXTS, "the signs . , : ; = | ( ) [ ] + - @" and "any other BYTE": "(Each by itself.)" */
    private static void signsAndOtherBytesStandByThemselves() {
        tokens(13, ".,:;=|()[]+-@");
        tokens(26, "..,,::;;==||(())[[]]++--@@");
        tokens(4, "$$$$");
        tokens(4, "\t\t\r\r");
        tokens(6, "\0\0\u0080\u0080\u00ff\u00ff");
        tokens(3, "-0x1-");
    }

    /** TEXTS, NAMES: "a letter or _ first". */
    private static void namesBeginWithALetterOr_() {
        for (String name : new String[] {"a", "z", "A", "Z", "_", "__", "_9", "a9_Z", "x0", "e1"}) {
            isName(name);
        }
        isNone("9a");
        isNone("0_");
    }

    /** TEXTS, NAMES: "20 BYTES at most". */
    private static void namesHave20BytesAtMost() {
        isName(LONGEST);
        isNone(LONGEST + "n");
        isNone(LONGEST + "9");
        isNone(LONGEST + "_");
        isName("_" + LONGEST.substring(1));
        isNone("_" + LONGEST);
    }

    /** TEXTS, NAMES: all of the BYTES count, the twentieth too. */
    private static void namesDifferInTheirLastByte() {
        String other = LONGEST.substring(1) + "m";
        Checks.same("two", "ok 0", Checks.described("word 8; num " + LONGEST + " 1; num " + other + " 1;"));
        Checks.same("one", "fault 2 at 8", Checks.described("word 8; num " + LONGEST + " 1; num " + LONGEST + " 1;"));
        Checks.same("small and great", "ok 0", Checks.described("word 8; num n 1; num N 1;"));
    }

    /** TEXTS, NUMBERS: "0x and one to eight digits of sixteen". */
    private static void numbersOfSixteenHaveOneToEightDigits() {
        isNone("0x");
        isNumber("0x0", 0);
        isNumber("0xf", 15);
        isNumber("0x00000001", 1);
        isNumber("0x80000000", 1L << 31);
        isNone("0x000000001");
        isNone("0x100000000");
    }

    /** TEXTS, NUMBERS: "(0 to 9, a to f, A to F)". */
    private static void digitsOfSixteen() {
        isNumber("0x09af", 0x9af);
        isNumber("0xAF90", 0xaf90);
        isNumber("0xbcdeBCDE", 0xbcdebcdeL);
        isNone("0xg");
        isNone("0xG");
        isNone("0x_");
        isNone("0x1x");
        isNone("0X1");
        isNone("1x1");
        isNone("00x1");
    }

    /** TEXTS, NUMBERS: "or one to ten digits". */
    private static void numbersHaveOneToTenDigits() {
        isNumber("0", 0);
        isNumber("9", 9);
        isNumber("0000000000", 0);
        isNumber("0000000009", 9);
        isNumber("1234567890", 1234567890);
        isNone("00000000000");
        isNone("00000000001");
        isNone("12345678901");
        isNone("1a");
    }

    /** TEXTS, NUMBERS: "below 2^32". */
    private static void numbersAreBelow2To32() {
        isNumber("4294967295", 4294967295L);
        isNone("4294967296");
        isNone("9999999999");
        isNumber("0xffffffff", 4294967295L);
    }

    /** TEXTS: "A row of letters, digits and _ that is neither NAME nor NUMBER is one TOKEN that is none". */
    private static void aRowThatIsNeitherIsOneToken() {
        tokens(1, Checks.repeat("n", 6000));
        tokens(1, Checks.repeat("9", 6000));
        tokens(3, "9a 0x 4294967296");
        tokens(3, "9a.0x");
    }

    /** TEXTS: "blanks, and # up to the line's end, stand between". */
    private static void commentsGoToTheLineEnd() {
        tokens(0, "#");
        tokens(0, Checks.repeat("#", 6000));
        tokens(0, Checks.repeat(" ", 6000));
        tokens(0, "# a b");
        tokens(2, "a#b\nc");
        tokens(2, "a #\0\t$\u00ff# b\n\nc # d");
        // The line end is not the comment's own.
        Checks.same("two lines", "ok 2", Checks.assembled(Checks.machine("word 8;"), ".word 1#, 2\n.word 3#"));
        Checks.same("one line", "fault 1 at 3", Checks.assembled(Checks.machine("word 8;"), ".word 1 .word 3"));
    }

    /** Promise 3: "how many TOKENS (those that are none, too; line ends are not counted)". */
    private static void endCountsTokens() {
        tokens(0, "");
        tokens(0, "\n");
        tokens(0, Checks.repeat("\n", 6000));
        tokens(6000, Checks.repeat("$", 6000));
        tokens(3000, Checks.repeat("n\n", 3000));
        tokens(5, "n 9 $ 9n\n,\n");
    }

    /** Promise 3: "THE TEXT has only its first n BYTES", from all of them to none. */
    private static void endCutsTheText() {
        IsaForge x = Checks.machine("word 8;");
        Checks.feed(x, ".word 12, 34");
        Checks.same("all", 5, x.end(12));
        Checks.same("one less", 5, x.end(11));
        Checks.same("bytes", 11, x.count(6));
        Checks.same("none of the last", 4, x.end(9));
        Checks.same("no comma", 3, x.end(8));
        Checks.same("half a number", 3, x.end(7));
        Checks.same("read", 1, x.assemble());
        Checks.same("what is left of it", 1, x.word(0));
        Checks.same("nothing of the empty", 0, x.end(0));
        Checks.feed(x, "a");
        Checks.same("nothing", 0, x.end(0));
        Checks.same("no bytes", 0, x.count(6));
    }

    /** Promise 3: "IllegalArgumentException if there are not so many, or n is below 0". */
    private static void endRefusesWhatIsNotThere() {
        for (int n : new int[] {21, 6000, 6001, Integer.MAX_VALUE, -1, -20, Integer.MIN_VALUE}) {
            Checks.refused("end(" + n + ") of 20", IllegalArgumentException.class, () -> withText(20), x -> x.end(n));
        }
        Checks.refused("end(1) of 0", IllegalArgumentException.class, IsaForge::new, x -> x.end(1));
        Checks.refused("end(-1) of 0", IllegalArgumentException.class, IsaForge::new, x -> x.end(-1));
        Checks.refused("end(6001) of 6000", IllegalArgumentException.class, () -> withText(6000), x -> x.end(6001));
    }

    /** Promise 3: the bytes that were cut do not come back. */
    private static void endDoesNotBringBytesBack() {
        IsaForge x = new IsaForge();
        Checks.feed(x, "a b c");
        x.end(1);
        Checks.throwing("end(3)", IllegalArgumentException.class, () -> x.end(3));
        Checks.throwing("end(2)", IllegalArgumentException.class, () -> x.end(2));
        Checks.same("end(1)", 1, x.end(1));
    }
}
