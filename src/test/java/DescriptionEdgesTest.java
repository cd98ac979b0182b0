import java.util.NoSuchElementException;

/** The edges of term 1, a DESCRIPTION, and of promise 4: a test for each sentence that names one. */
final class DescriptionEdgesTest {
    private static final String NUM = "word 8; num n 4; ins a x:n = ";

    private DescriptionEdgesTest() {
    }

    public static void main(String[] args) {
        Checks.runEach(DescriptionEdgesTest.class);
        Checks.finish();
    }

    private static void takes(int instructions, String text) {
        Checks.same("<" + text + ">", "ok " + instructions, Checks.described(text));
    }

    /** A text with a mark ^ before the token at which the fault is told. */
    private static void refuses(int kind, String marked) {
        IsaForge x = new IsaForge();
        String due = Checks.faultAtMark(kind, marked, false);
        Checks.same("<" + marked + ">", due, Checks.described(x, Checks.unmarked(marked)));
        for (int what = 0; what <= 7; what++) {
            Checks.same("count(" + what + ") of <" + marked + ">", 0, x.count(what));
        }
    }

    private static String names(int count) {
        StringBuilder names = new StringBuilder();
        for (int i = 0; i < count; i++) {
            names.append(" m").append(i);
        }
        return names.toString();
    }

    private static String kinds(int count) {
        String[] sorts = {"num k", "int k", "rel k", "reg k"};
        StringBuilder kinds = new StringBuilder("word 8;");
        for (int i = 0; i < count; i++) {
            kinds.append(sorts[i % 4]).append(i).append(i % 4 == 3 ? " r 4;" : " 4;");
        }
        return kinds.toString();
    }

    private static String instructions(int count) {
        return "word 8;" + Checks.repeat("ins a=00000000;", count);
    }

    /** Term 1: "line ends are nothing in it". */
    private static void lineEndsAreNothing() {
        takes(1, "\n\nword\n8\n;\nins\na\n=\n0000\n\n0000\n;\n\n");
        refuses(1, "\nword\n\n^;");
        refuses(1, "\n\nword\n\n8\n\n^");
    }

    /** Term 1: "statements, each with ; behind it". */
    private static void eachStatementHasASemicolon() {
        refuses(1, "word 8^");
        refuses(1, "word 8 ^num n 4;");
        refuses(1, "word 8; reg k r 4^");
        refuses(1, "word 8; reg k r 4 ^4;");
        refuses(1, "word 8; num n 4^");
        refuses(1, "word 8; int n 4 ^num m 4;");
        refuses(1, "word 8; set s a b^");
        refuses(1, "word 8; set s a b num n ^4;");
        refuses(1, "word 8; ins a = 00000000^");
        refuses(1, "word 8; ins a = 00000000 ^= ;");
        refuses(1, "word 8;^;");
    }

    /** Term 1: "word N (8, 16, or 32)". */
    private static void aWordHas8Or16Or32Bits() {
        for (int bits : new int[] {8, 16, 32}) {
            IsaForge x = Checks.machine("word " + bits + ";");
            Checks.same("bits", bits, x.count(1));
        }
        takes(0, "word 0x20;");
        takes(0, "word 008;");
        for (String bits : new String[] {"0", "1", "7", "9", "15", "17", "24", "31", "33", "64", "4294967295", "0x80"}) {
            refuses(3, "word ^" + bits + ";");
        }
        // It would be 8 if a number wrapped around.
        refuses(1, "word ^4294967304;");
    }

    /** Term 1, word: "first of all". */
    private static void theWidthStandsFirst() {
        refuses(1, "^");
        refuses(1, " # word 8;\n^");
        refuses(1, "^;");
        refuses(1, "^8;");
        refuses(1, "^num n 4; word 8;");
        refuses(1, "^ins a = 00000000; word 8;");
        refuses(1, "^Word 8;");
        refuses(1, "^words 8;");
        refuses(1, "^wor 8;");
        refuses(1, "word^");
        refuses(1, "word ^;");
        refuses(1, "word ^word;");
    }

    /** Term 1, word: "once. (Another one is FAULT 1". */
    private static void theWidthStandsOnce() {
        refuses(1, "word 8; ^word 8;");
        refuses(1, "word 8; num n 4; ^word 16;");
    }

    /** Term 1: "The words of statements are not kept: a KIND may be named so." */
    private static void wordsOfStatementsAreNotKept() {
        takes(1, "word 8; num word 4; num num 4; reg reg reg 2; set set set reg; int ins 1; rel rel 1; int int 1;"
            + " ins ins ins:num + num:set word:reg = 00 ins num word;");
    }

    /** Term 1: a word that begins no statement. */
    private static void otherWordsBeginNoStatement() {
        for (String word : new String[] {"nums", "nu", "Reg", "INS", "se", "n", "8", "$", ":", "reg1"}) {
            refuses(1, "word 8; ^" + word + " a 3;");
        }
    }

    /** Term 1, reg: "the second NAME (of letters alone, else FAULT 1)". */
    private static void registersAreWrittenWithLettersAlone() {
        takes(0, "word 8; reg k a 4; reg l Z 4; reg m " + Checks.repeat("Q", 20) + " 4;");
        for (String written : new String[] {"r1", "r_", "_", "_r", "r1r", "4", "$", ";", Checks.repeat("Q", 21)}) {
            refuses(1, "word 8; reg k ^" + written + " 4;");
        }
    }

    /** Term 1, reg: "0 to N - 1 (N 1 to 64)". */
    private static void registersAre1To64() {
        takes(0, "word 8; reg k r 1;");
        takes(0, "word 8; reg k r 64;");
        refuses(3, "word 8; reg k r ^0;");
        refuses(3, "word 8; reg k r ^65;");
        refuses(3, "word 8; reg k r ^4294967295;");
        refuses(1, "word 8; reg k r ^n;");
        refuses(1, "word 8; reg k r ^;");
    }

    /** Term 1, num, int, rel: "N bits (1 to 32)". */
    private static void numbersHave1To32Bits() {
        for (String sort : new String[] {"num", "int", "rel"}) {
            takes(0, "word 8; " + sort + " n 1;");
            takes(0, "word 8; " + sort + " n 32;");
            refuses(3, "word 8; " + sort + " n ^0;");
            refuses(3, "word 8; " + sort + " n ^33;");
            refuses(3, "word 8; " + sort + " n ^4294967295;");
            refuses(1, "word 8; " + sort + " n ^;");
            refuses(1, "word 8; " + sort + " n ^n;");
            refuses(1, "word 8; " + sort + " n ^4294967297;");
        }
    }

    /** Term 1, set: "2 to 32 NAMES", "With less FAULT 1 at what stands there". */
    private static void setsHave2To32Names() {
        takes(0, "word 8; set s" + names(2) + ";");
        takes(0, "word 8; set s" + names(32) + ";");
        refuses(3, "word 8; set s" + names(32) + " ^m32;");
        refuses(1, "word 8; set s^;");
        refuses(1, "word 8; set s m0^;");
        refuses(1, "word 8; set s^");
        refuses(1, "word 8; set s m0^");
        refuses(1, "word 8; set s ^4;");
        refuses(1, "word 8; set s m0 ^4;");
        refuses(1, "word 8; set s m0 ^, m1;");
        refuses(1, "word 8; set s m0 m1 ^4;");
        refuses(1, "word 8; set s" + names(32) + " ^4;");
        refuses(1, "word 8; set ^;");
    }

    /** Term 1, set: "a NAME twice comes before too many". */
    private static void aNameTwiceComesBeforeTooMany() {
        refuses(2, "word 8; set s" + names(32) + " ^m0;");
        refuses(2, "word 8; set s" + names(32) + " ^m31;");
        refuses(2, "word 8; set s m0 ^m0;");
        refuses(2, "word 8; set s m0 m1 ^m0;");
        takes(0, "word 8; set s m0 s;");
    }

    /** Term 1, ins: "an INSTRUCTION (at most 96)". */
    private static void instructionsAre96AtMost() {
        takes(0, instructions(0));
        takes(95, instructions(95));
        takes(96, instructions(96));
        takes(96, instructions(96) + "num n 4;");
        refuses(3, instructions(96) + "ins ^a=00000000;");
        refuses(3, instructions(96) + "num n 4; ins ^b");
        refuses(1, instructions(96) + "ins ^5;");
        refuses(1, instructions(96) + "^inss b=00000000;");
    }

    /** Term 1, ins: "NAME its MNEMONIC", which may be there already. */
    private static void mnemonicsAreAnyNames() {
        String longest = Checks.repeat("M", 20);
        takes(3, "word 8; ins " + longest + " = 00000000; ins " + longest + " = 00000000; ins _ = 00000000;");
        refuses(1, "word 8; ins ^" + longest + "M = 00000000;");
        refuses(1, "word 8; ins ^= 00000000;");
        refuses(1, "word 8; ins ^");
    }

    /** Term 1, ins: "PARTS (at most 12)". */
    private static void partsAre12AtMost() {
        takes(1, "word 8; ins a = 00000000;");
        takes(1, "word 8; ins a ,,,,,,,,,,,, = 00000000;");
        refuses(3, "word 8; ins a ,,,,,,,,,,,, ^@ = 00000000;");
        String four = "word 8; num n 1; ins a p:n q:n r:n s:n";
        takes(1, four + " ,,,,,,, t:n = 000 p q r s t;");
        refuses(3, four + " ,,,,,,,, ^t:n = 000 p q r s t;");
        refuses(3, four + " ,,,,,,, t:n ^, = 000 p q r s t;");
        refuses(2, four + " ,,,,,,,, ^s:n = 000 p q r s t;");
        refuses(1, four + " ,,,,,,,, ^; = 000 p q r s t;");
        refuses(1, four + " ,,,,,,,, ^5 = 000 p q r s t;");
    }

    /** Term 1, ins: "PARTS are the signs , ( ) [ ] + - @ and OPERANDS". */
    private static void partsAreEightSigns() {
        takes(1, "word 8; ins a ,()[]+-@ = 00000000;");
        for (String other : new String[] {".", ":", ";", "|", "5", "$", "9a"}) {
            refuses(1, "word 8; ins a ^" + other + " = 00000000;");
        }
        refuses(1, "word 8; ins a = ^= 00000000;");
    }

    /** Term 1, ins: "OPERANDS, NAME : KIND (at most 5)". */
    private static void operandsAre5AtMost() {
        String five = "word 8; num n 1; ins a p:n q:n r:n s:n t:n";
        takes(1, five + " = 000 p q r s t;");
        refuses(3, five + " ^u:n = 00 p q r s t u;");
        refuses(3, five + " ^u = 00 p q r s t u;");
        refuses(2, five + " ^t:n = 00 p q r s t u;");
        refuses(1, "word 8; num n 1; ins a p^ = 0000000 p;");
        refuses(1, "word 8; num n 1; ins a p:^ = 0000000 p;");
        refuses(1, "word 8; num n 1; ins a p:^4 = 0000000 p;");
    }

    /** Term 1, ins: "BITS are those of 1 to 4 WORDS". */
    private static void wordsAre1To4() {
        takes(1, "word 8; ins a = 00000000;");
        takes(1, "word 8; ins a = 00000000|11111111|00000000|11111111;");
        refuses(3, "word 8; ins a = 00000000|00000000|00000000|00000000^|00000000;");
    }

    /** Term 1, FAULTS: "the | behind a fourth WORD is 3 whatever bits it has". */
    private static void aFifthWordIsFault3WhateverBits() {
        refuses(3, "word 8; ins a = 00000000|00000000|00000000|0^|0;");
        refuses(3, "word 8; ins a = 00000000|00000000|00000000|000000000^|0;");
        refuses(3, "word 8; ins a = 00000000|00000000|00000000|^|0;");
        refuses(4, "word 8; ins a = 00000000|00000000|00000000|0^;");
        refuses(4, "word 8; ins a = 00000000|00000000|0^|00000000|00000000;");
    }

    /** Term 1, ins: "digits 0 and 1 (a NUMBER of these alone, at most ten)". */
    private static void digitsAre0And1() {
        takes(1, "word 16; ins a = 1111111111 000000;");
        takes(1, "word 8; ins a = 0 1 0 1 0 1 0 1;");
        refuses(1, "word 16; ins a = ^01010101010 10101;");
        for (int digit = 2; digit <= 9; digit++) {
            refuses(3, "word 8; ins a = ^0000000" + digit + ";");
            refuses(3, "word 8; ins a = 0000000 ^" + digit + ";");
        }
        refuses(3, "word 8; ins a = ^0x11;");
        refuses(3, "word 8; ins a = ^0x0 00000;");
        refuses(1, "word 8; ins a = ^0000000a;");
    }

    /** Term 1, ins: "an OPERAND (all of its bits)", from one bit to thirty-two. */
    private static void anOperandStandsWithAllItsBits() {
        takes(1, "word 8; num n 1; ins a x:n = 0000000 x;");
        takes(1, "word 8; num n 8; ins a x:n = x;");
        takes(1, "word 32; num n 32; ins a x:n = x;");
        refuses(4, "word 8; num n 9; ins a x:n = x^;");
        refuses(4, "word 8; num n 7; ins a x:n = x^;");
        refuses(4, "word 8; num n 32; ins a x:n = x^;");
    }

    /** Term 1, FAULTS: 3 "of a piece: a first one that the OPERAND has no bit for". */
    private static void aPieceBeginsAtABitOfTheOperand() {
        takes(1, NUM + "0000 x[3] x[2] x[1] x[0];");
        refuses(3, NUM + "0000 x[^4];");
        refuses(3, NUM + "0000 x[^4:0];");
        refuses(3, NUM + "0000 x[^4:5];");
        refuses(3, NUM + "0000 x[^4294967295];");
        takes(1, "word 8; num n 32; ins a x:n = x[31:24]|x[23:16]|x[15:8]|x[7:0];");
        refuses(3, "word 8; num n 32; ins a x:n = x[^32:24]|x[23:16]|x[15:8]|x[7:0];");
        takes(1, "word 8; reg r r 1; ins a x:r = 0000000 x[0];");
        refuses(3, "word 8; reg r r 2; ins a x:r = 0000000 x[^1];");
        takes(1, "word 8; set s p q r; ins a x:s = 000000 x[1] x[0];");
        refuses(3, "word 8; set s p q r; ins a x:s = 000000 x[^2];");
    }

    /** Term 1, FAULTS: 3 "a second one above the first"; ins: "(the higher one first)". */
    private static void aPieceGoesDown() {
        takes(1, NUM + "0000 x[3:0];");
        takes(1, NUM + "0000 x[3:3] x[2:2] x[1:0];");
        refuses(3, NUM + "0000 x[2:^3];");
        refuses(3, NUM + "0000 x[0:^1];");
        refuses(3, NUM + "0000 x[0:^3];");
        refuses(3, NUM + "0000 x[3:^4294967295];");
    }

    /** Term 1, ins: "NAME [ N : N ], NAME [ N ]", and what goes on with nothing. */
    private static void aPieceIsWrittenInBrackets() {
        refuses(1, NUM + "0000 x[^];");
        refuses(1, NUM + "0000 x[^x];");
        refuses(1, NUM + "0000 x[^:0];");
        refuses(1, NUM + "0000 x[^-1];");
        refuses(1, NUM + "0000 x[3^;");
        refuses(1, NUM + "0000 x[3^,0];");
        refuses(1, NUM + "0000 x[3:^];");
        refuses(1, NUM + "0000 x[3:^x];");
        refuses(1, NUM + "0000 x[3:0^;");
        refuses(1, NUM + "0000 x[3:0^:0];");
        refuses(1, NUM + "0000 ^[3:0];");
        refuses(1, NUM + "0000 x[3:0]^];");
        refuses(1, NUM + "0000 x ^(");
        refuses(1, NUM + "0000 x[^");
    }

    /** Term 1, ins: "A reg and a set have as many bits as their last one needs (at least 1)". */
    private static void registersHaveTheBitsOfTheirLast() {
        int[] counts = {1, 2, 3, 4, 5, 8, 9, 16, 17, 32, 33, 64};
        int[] bits = {1, 1, 2, 2, 3, 3, 4, 4, 5, 5, 6, 6};
        for (int i = 0; i < counts.length; i++) {
            String start = "word 8; reg k r " + counts[i] + "; ins a x:k = x ";
            takes(1, start + Checks.repeat("0", 8 - bits[i]) + ";");
            refuses(4, start + Checks.repeat("0", 9 - bits[i]) + "^;");
        }
    }

    /** Term 1, ins: the bits of a set, likewise. */
    private static void setsHaveTheBitsOfTheirLast() {
        int[] counts = {2, 3, 4, 5, 8, 9, 16, 17, 32};
        int[] bits = {1, 2, 2, 3, 3, 4, 4, 5, 5};
        for (int i = 0; i < counts.length; i++) {
            String start = "word 8; set k" + names(counts[i]) + "; ins a x:k = x ";
            takes(1, start + Checks.repeat("0", 8 - bits[i]) + ";");
            refuses(4, start + Checks.repeat("0", 9 - bits[i]) + "^;");
        }
    }

    /** Term 1, FAULTS: 1 "a TOKEN that is none", wherever it stands. */
    private static void aTokenThatIsNoneIsFault1() {
        String good = "word 8 ; reg r r 4 ; num n 4 ; set s x y ; ins a p : r , q : n = 0 0 p q [ 3 : 1 ] q [ 0 ] ;";
        takes(1, good);
        String[] tokens = good.split(" ");
        for (int i = 0; i <= tokens.length; i++) {
            StringBuilder marked = new StringBuilder();
            for (int t = 0; t < i; t++) {
                marked.append(tokens[t]).append(' ');
            }
            refuses(1, marked + "^$");
            refuses(1, marked + "^" + Checks.repeat("n", 21));
            refuses(1, marked + "^4294967296");
            // The end, too, is what nothing goes on with, unless a statement just ended there.
            if (i > 0 && !tokens[i - 1].equals(";")) {
                refuses(1, marked + "^");
            }
        }
    }

    /** Term 1, FAULTS: 2 "a NAME that is there already (KIND". */
    private static void aKindTwiceIsFault2() {
        String[] sorts = {"reg k", "num k", "int k", "rel k", "set k"};
        String[] rests = {" r 4;", " 4;", " 4;", " 4;", " x y;"};
        for (int i = 0; i < sorts.length; i++) {
            for (int j = 0; j < sorts.length; j++) {
                String second = sorts[j].replace(" k", " ^k") + rests[j];
                refuses(2, "word 8; " + sorts[i] + rests[i] + second);
            }
        }
        // What registers are written with is no name of a kind.
        takes(0, "word 8; reg k r 4; reg l r 5; num r 4; reg a k 2;");
    }

    /** Term 1, FAULTS: 2 "OPERAND of the same INSTRUCTION". */
    private static void anOperandTwiceIsFault2() {
        refuses(2, "word 8; num n 4; ins a x:n, ^x:n = x x;");
        refuses(2, "word 8; num n 4; ins a x:n ^x = x x;");
        takes(2, "word 8; num n 4; ins a x:n = 0000 x; ins a x:n = 0001 x;");
        takes(1, "word 8; num n 4; ins n n:n = 0000 n;");
    }

    /** Term 1, FAULTS: 2 "NAME of the same set". */
    private static void aNameOfTheSameSetTwiceIsFault2() {
        refuses(2, "word 8; set s x y ^x;");
        takes(0, "word 8; set s x y; set t x y; num x 4;");
    }

    /** Term 1, FAULTS: 2 "or an unknown one (KIND, OPERAND)". */
    private static void anUnknownNameIsFault2() {
        refuses(2, "word 8; ins a x:^n = 0000 x; num n 4;");
        refuses(2, "word 8; num n 4; ins a x:^m = 0000 x;");
        refuses(2, "word 8; num n 4; ins a x:^x = 0000 x;");
        refuses(2, "word 8; reg k r 4; ins a x:^r = 000000 x;");
        refuses(2, NUM + "0000 ^y;");
        refuses(2, NUM + "0000 ^n;");
        refuses(2, NUM + "0000 ^y[3:0];");
        refuses(2, "word 8; ins a = ^x;");
        refuses(2, NUM + "0000 x; ins b = 0000 ^x;");
    }

    /** Term 1, FAULTS: 3 "KINDS beyond 40". */
    private static void kindsAre40AtMost() {
        IsaForge x = Checks.machine(kinds(40));
        Checks.same("kinds", 40, x.count(2));
        takes(1, kinds(40) + "ins a x:k0 y:k38 = x y;");
        for (String sort : new String[] {"num", "int", "rel", "reg", "set"}) {
            refuses(3, kinds(40) + sort + " ^k40 4;");
            refuses(2, kinds(40) + sort + " ^k39 4;");
            refuses(1, kinds(40) + sort + " ^40 4;");
        }
    }

    /** Term 1, FAULTS: 4 "the bits of a WORD are not as many as it has (told: the | or ; behind it". */
    private static void aWordHasAllItsBits() {
        for (int bits : new int[] {8, 16, 32}) {
            String start = "word " + bits + "; ins a = ";
            String digits = Checks.repeat("1 ", bits);
            takes(1, start + digits + ";");
            refuses(4, start + digits.substring(2) + "^;");
            refuses(4, start + digits + "1^;");
            refuses(4, start + digits.substring(2) + "^|" + digits + ";");
            refuses(4, start + digits + "1^|" + digits + ";");
            refuses(4, start + digits + "|" + digits.substring(2) + "^;");
        }
        refuses(4, "word 8; ins a = " + Checks.repeat("1111111111 ", 500) + "^;");
        refuses(4, NUM + "x x x^;");
    }

    /** Term 1, FAULTS: 4 "also of an empty WORD, which is no 1". */
    private static void anEmptyWordIsFault4() {
        refuses(4, "word 8; ins a = ^;");
        refuses(4, "word 8; ins a = ^|00000000;");
        refuses(4, "word 8; ins a = 00000000|^;");
        refuses(4, "word 8; ins a = 00000000|^|00000000;");
        refuses(1, "word 8; ins a = ^");
        refuses(1, "word 8; ins a = 00000000|^");
    }

    /** Term 1, FAULTS: 5 "a bit of an OPERAND is missing or twice (told: the ; of the statement)". */
    private static void eachBitOfAnOperandStandsOnce() {
        refuses(5, NUM + "00000000^;");
        refuses(5, NUM + "0000 x[3:1] 0^;");
        refuses(5, NUM + "0000 0 x[2:0]^;");
        refuses(5, NUM + "0000 x[3:2] 0 x[0]^;");
        refuses(5, NUM + "x x^;");
        refuses(5, NUM + "000 x x[0]^;");
        refuses(5, NUM + "000 x[3] x^;");
        refuses(5, NUM + "0000 x|0000 x^;");
        refuses(5, NUM + "0000 x[3:1] x[1]^;");
        refuses(5, "word 8; num n 4; num m 4; ins a x:n, y:m = 0000 x^;");
        refuses(5, "word 8; num n 4; num m 4; ins a x:n, y:m = 0000 y^;");
        refuses(5, "word 8; num n 32; ins a x:n = x[30:24] 0|x[23:16]|x[15:8]|x[7:0]^;");
        refuses(5, "word 32; num n 32; ins a x:n = x|x[31] 0000000000 0000000000 0000000000 0^;");
        takes(1, "word 8; num n 4; ins a x:n, y:n = y x;");
    }

    /** Term 1, FAULTS: "The first TOKEN with one counts", "what stands behind it is not looked at". */
    private static void theFirstTokenCounts() {
        refuses(3, "word ^9 $ $ $");
        refuses(3, "word 8; reg k r ^65 $");
        refuses(2, NUM + "0000 ^y $");
        refuses(4, NUM + "0000^| y $ 9;");
        refuses(3, NUM + "^9 y");
        refuses(5, NUM + "x x^; word 9; $");
        refuses(3, NUM + "00000000 x[^4] x;");
    }

    /** Term 1, FAULTS: "of one TOKEN the lesser FAULT". */
    private static void ofOneTokenTheLesserFaultCounts() {
        // 2 before 3: a name that is there already, and one too many.
        refuses(2, kinds(40) + "num ^k0 4;");
        // 3 before 4: a fifth word behind one with other bits. 4 before 5: the bits of a word and of an operand.
        refuses(3, "word 8; ins a = 00000000|00000000|00000000|000^|0;");
        refuses(4, NUM + "x x x^;");
        refuses(4, NUM + "0000^;");
    }

    /** Promise 4: "THE TEXT is read as a DESCRIPTION and is empty then". */
    private static void describeEmptiesTheText() {
        IsaForge x = Checks.machine("word 8;");
        Checks.same("bytes", 0, x.count(6));
        Checks.same("a fault", "fault 1 at 0", Checks.described(x, "$"));
        Checks.same("bytes after a fault", 0, x.count(6));
        Checks.same("full", "ok 0", Checks.described(x, "word 8;" + Checks.repeat(" ", 5993)));
        Checks.same("bytes after the full one", 0, x.count(6));
        Checks.throwing("the empty one", UnsupportedOperationException.class, x::describe);
        Checks.same("kind", 1, x.kind());
        Checks.same("place", 0, x.place());
    }

    /** Promise 4: "the PROGRAM is gone (THE LISTING stays". */
    private static void describeTakesTheProgramAway() {
        IsaForge x = Checks.machine(Checks.MACHINE);
        Checks.same("assembled", "ok 3", Checks.assembled(x, "a: nop\nb: nop\n.at 4095\nc: nop"));
        x.poke(9, 5);
        x.list(0);
        Checks.same("described", "ok 0", Checks.described(x, "word 8;"));
        isWithoutProgram(x);
        Checks.same("the listing", "nop", Checks.listing(x));
        Checks.same("its instruction", 6, x.which());
        Checks.same("its bytes", 3, x.count(7));
    }

    private static void isWithoutProgram(IsaForge x) {
        for (int what = 3; what <= 5; what++) {
            Checks.same("count(" + what + ")", 0, x.count(what));
        }
        for (int address : new int[] {0, 1, 9, 4095}) {
            Checks.throwing("word " + address, NoSuchElementException.class, () -> x.word(address));
            Checks.throwing("list " + address, NoSuchElementException.class, () -> x.list(address));
        }
    }

    /** Promise 4: "UnsupportedOperationException for a FAULT (there is no DESCRIPTION then)". */
    private static void aFaultLeavesNoDescription() {
        IsaForge x = Checks.machine(Checks.MACHINE);
        Checks.assembled(x, "a: nop\nb: nop");
        x.list(1);
        Checks.same("a fault", "fault 4 at 20", Checks.described(x, "word 8; num n 4; ins a x:n = 0000 x; ins b = 0;"));
        for (int what = 0; what <= 2; what++) {
            Checks.same("count(" + what + ")", 0, x.count(what));
        }
        isWithoutProgram(x);
        Checks.throwing("told", IndexOutOfBoundsException.class, () -> x.told(0, 0));
        Checks.throwing("overlap", IndexOutOfBoundsException.class, () -> x.overlap(0, 0) ? 1 : 0);
        Checks.throwing("poke", IllegalStateException.class, () -> x.poke(0, 0));
        Checks.throwing("assemble", IllegalStateException.class, x::assemble);
        Checks.same("the listing", "nop", Checks.listing(x));
        Checks.same("its instruction", 6, x.which());
    }

    /** Promise 4: nothing of an earlier DESCRIPTION is left in the next. */
    private static void eachDescriptionStandsAlone() {
        IsaForge x = Checks.machine(kinds(40) + "ins a x:k0 = 0000 x;");
        Checks.same("forty again", "ok 0", Checks.described(x, kinds(40)));
        Checks.same("an old kind", "fault 2 at 7", Checks.described(x, "word 8; ins a x:k0 = 0000 x;"));
        Checks.same("ninety-six", "ok 96", Checks.described(x, instructions(96)));
        Checks.same("ninety-six again", "ok 96", Checks.described(x, instructions(96)));
        Checks.same("one", "ok 1", Checks.described(x, instructions(1)));
        Checks.throwing("the second", IndexOutOfBoundsException.class, () -> x.told(1, 0));
        Checks.same("a bit twice", "fault 5 at 15", Checks.described(x, NUM + "x x;"));
        Checks.same("and no more", "ok 1", Checks.described(x, NUM + "0000 x;"));
    }
}
