import java.util.NoSuchElementException;

/** The edges of term 2, a PROGRAM, and of promise 5: a test for each sentence that names one. */
final class ProgramEdgesTest {
    private static final String MACHINE = "word 8; num u 4; int i 4; rel j 4; reg r r 12; set c eq ne lt;"
        + " ins num x:u = 0000 x; ins int x:i = 0001 x; ins rel x:j = 0010 x; ins reg x:r = 0011 x;"
        + " ins set x:c = 010000 x; ins two = 11111110 | 00000001; ins nop = 11111111;";
    /** One instruction for each sort of number, as wide as it can be. */
    private static final String WIDE = "word 32; num n 32; int i 32; rel j 32;"
        + " ins num x:n = x; ins int x:i = x; ins rel x:j = x;";
    /** Forms that grow by one word; the first takes -4 to 3 from its place. */
    private static final String GROWING = "word 8; rel near 3; rel far 8; ins jmp l:near = 10000 l;"
        + " ins jmp l:far = 10001000 | l; ins nop = 01111111;";

    private ProgramEdgesTest() {
    }

    public static void main(String[] args) {
        Checks.runEach(ProgramEdgesTest.class);
        Checks.finish();
    }

    /** A program and the words from 0 on, in digits of sixteen. */
    private static void takes(String machine, String text, String words) {
        IsaForge x = Checks.machine(machine);
        int count = words.isEmpty() ? 0 : words.split(" ").length;
        Checks.same("<" + text + ">", "ok " + count, Checks.assembled(x, text));
        Checks.same("words of <" + text + ">", words, Checks.words(x));
    }

    private static void takes(String text, String words) {
        takes(MACHINE, text, words);
    }

    /** A text with a mark ^ before the token at which the fault is told. */
    private static void refuses(String machine, int kind, String marked) {
        IsaForge x = Checks.machine(machine);
        x.poke(7, 7);
        String due = Checks.faultAtMark(kind, marked, true);
        Checks.same("<" + marked + ">", due, Checks.assembled(x, Checks.unmarked(marked)));
        for (int what = 3; what <= 6; what++) {
            Checks.same("count(" + what + ") of <" + marked + ">", 0, x.count(what));
        }
    }

    private static void refuses(int kind, String marked) {
        refuses(MACHINE, kind, marked);
    }

    private static void rounds(String machine, int due, String text) {
        IsaForge x = Checks.machine(machine);
        Checks.assembled(x, text);
        Checks.same("rounds of <" + text + ">", due, x.count(5));
    }

    /** Term 2: "lines: perhaps ... perhaps": a PROGRAM and lines on which nothing stands. */
    private static void anEmptyProgramIsTaken() {
        for (String text : new String[] {"", "\n", "\n\n\n", " ", "# nop", "# nop\n # nop\n", Checks.repeat("\n", 6000)}) {
            takes(text, "");
            rounds(MACHINE, 1, text);
        }
        takes("\n\nnop\n\n", "ff");
    }

    /** Term 2: "NAME : (a LABEL, any NAME; it may be a MNEMONIC, too)". */
    private static void aLabelIsAnyName() {
        takes("nop: nop", "ff");
        takes("word: .word 7\nat: .at 1\nnum: num num", "7 1");
        takes("r0: reg r0\neq: set eq", "30 40");
        takes("_:\n" + Checks.repeat("l", 20) + ": nop", "ff");
        refuses(1, "^" + Checks.repeat("l", 21) + ": nop");
        refuses(1, "^9: nop");
        refuses(1, "^: nop");
    }

    /** Term 2: "perhaps NAME :", one in a line alone. */
    private static void aLineHasOneLabel() {
        refuses(6, "x: ^y: nop");
        refuses(6, "x: ^x: nop");
        refuses(1, "x: ^: nop");
        takes("x:\ny: nop", "ff");
    }

    /** Term 2, .word: "each below 2 to the bits of a WORD". */
    private static void numbersOfWordFitIntoAWord() {
        takes("word 8;", ".word 0, 255", "0 ff");
        refuses("word 8;", 3, ".word 255, ^256");
        takes("word 16;", ".word 0, 65535", "0 ffff");
        refuses("word 16;", 3, ".word ^65536, 65535");
        takes("word 32;", ".word 0, 4294967295", "0 ffffffff");
        refuses("word 32;", 1, ".word ^4294967296");
        refuses("word 8;", 3, ".word ^4294967295");
    }

    /** Term 2: ". NAME NUMBERS with , between", one or more. */
    private static void wordHasOneNumberOrMore() {
        takes(".word 1", "1");
        takes(". word 1,2 , 3", "1 2 3");
        refuses(1, ".word^");
        refuses(1, ".word ^\n1");
        refuses(1, ".word ^,1");
        refuses(1, ".word 1,^");
        refuses(1, ".word 1,^\n2");
        refuses(1, ".word 1,^,2");
        refuses(1, ".word 1 ^2");
        refuses(1, ".word ^-1");
        refuses(1, ".word ^x\nx:");
        refuses(1, ".word 1 ^nop");
        takes(".word 0" + Checks.repeat(",0", 2900), "0" + Checks.repeat(" 0", 2900));
    }

    /** Term 2: ". NAME", and no other than word and at. */
    private static void noOtherNameStandsBehindTheDot() {
        refuses(1, ".^");
        refuses(1, ".^\nword 1");
        refuses(1, ".^byte 1");
        refuses(1, ".^words 1");
        refuses(1, ".^wor 1");
        refuses(1, ".^At 1");
        refuses(1, ".^a 1");
        refuses(1, ".^5");
        refuses(1, ".^.word 1");
        refuses(1, ".^nop");
        refuses(1, "x: .^x 1");
    }

    /** Term 2, .at: "goes to that ADDRESS (one NUMBER". */
    private static void atGoesToAnAddress() {
        takes(".at 0\nnop", "ff");
        IsaForge x = Checks.machine(MACHINE);
        Checks.same("at 4095", "ok 1", Checks.assembled(x, ".at 4095\nnop"));
        Checks.same("its word", 255, x.word(4095));
        refuses(3, ".at ^4096");
        refuses(3, ".at ^4096\nnop");
        refuses(3, ".at ^4294967295");
        refuses(1, ".at^");
        refuses(1, ".at ^-1");
        refuses(1, ".at ^x\nx:");
        refuses(1, ".at 5^, 6");
        refuses(1, ".at 5 ^6");
        refuses(1, ".at 5 ^nop");
    }

    /** Term 2, .at: "a LABEL before it in its line has the ADDRESS that was". */
    private static void aLabelBeforeAtHasTheAddressThatWas() {
        takes("word 16; num n 16; ins v x:n = x;", "v a\nv b\na: .at 2\nb: v a + 100", "2 2 66");
        takes("word 16; num n 16; ins v x:n = x;", "a: .at 3\n.at 0\nv a\nv b\nb:", "0 2");
    }

    /** Term 2: "For an OPERAND of a reg, its NAME and number in one (no 0 first)", term 1: "0 to N - 1". */
    private static void aRegisterIsWrittenInOne() {
        takes("reg r0\nreg r9\nreg r10\nreg r11", "30 39 3a 3b");
        String[] others = {"r12", "r99", "r00", "r01", "r09", "r011", "r100", "r110", "r", "R1", "rr1", "r1r", "r1_",
            "r_1", "r0x1", "1", "-1", "x1", "_r1", "r 1", "r1 r1", "r1,"};
        for (String other : others) {
            refuses(6, "^reg " + other);
        }
    }

    /** Term 1, reg: "one digit, or two without a 0 first", with as few and as many registers as there may be. */
    private static void theFewestAndTheMostRegisters() {
        String one = "word 8; reg k r 1; ins a x:k = 0000000 x;";
        takes(one, "a r0", "0");
        refuses(one, 6, "^a r1");
        String most = "word 8; reg k r 64; ins a x:k = 00 x;";
        takes(most, "a r0\na r63", "0 3f");
        refuses(most, 6, "^a r64");
        refuses(most, 6, "^a r063");
    }

    /** TEXTS, NAMES "20 BYTES at most": a register that is longer is a TOKEN that is none. */
    private static void aRegisterHas20BytesAtMost() {
        String letters = Checks.repeat("q", 18);
        String machine = "word 8; reg k " + letters + "q 12; reg l " + letters + " 12; reg m " + letters + "qq 12;"
            + " ins a x:k = 0000 x; ins b x:l = 0001 x; ins c x:m = 0010 x;";
        takes(machine, "a " + letters + "q9\nb " + letters + "11", "9 1b");
        refuses(machine, 6, "^a " + letters + "q10");
        refuses(machine, 6, "^c " + letters + "qq1");
    }

    /** Term 2: "of a set, its NAME". */
    private static void aSetIsWrittenAsItsName() {
        takes("set eq\nset ne\nset lt", "40 41 42");
        for (String other : new String[] {"e", "eqq", "EQ", "c", "0", "gt", "eq ne", ""}) {
            refuses(6, "^set " + other);
        }
        StringBuilder names = new StringBuilder();
        for (int i = 0; i < 32; i++) {
            names.append(" m").append(i);
        }
        takes("word 8; set s" + names + "; ins a x:s = 000 x;", "a m0\na m31", "0 1f");
    }

    /** Term 2: "a VALUE: NUMBER, - NUMBER, or a LABEL of the PROGRAM, with + or - NUMBER, if that stands behind it". */
    private static void aValueIsANumberOrALabel() {
        String machine = "word 8; int i 8; ins v x:i = x;";
        takes(machine, "v 7\nv -8\nv -0\nv x\nv x+3\nx: v x - 12", "7 f8 0 5 8 f9");
        takes(machine, "v x-0\nv x + 0\nx: v 0x7f", "2 2 7f");
        String[] others = {"", "-", "+", "+1", "- x", "-x", "y", "X", "1 + 1", "1 - 1", "-1 + 1", "x +", "x -", "x + x",
            "x + -1", "x - -1", "x + 1 + 1", "1 2", "x 1", "x x", "- - 1", "(1)", "$", "4294967296", "9a", "x + 9a"};
        for (String other : others) {
            refuses(machine, 6, "^v " + other + "\nx:");
        }
    }

    /** Term 2: "a LABEL of the PROGRAM": of this one, and none of the one before. */
    private static void aLabelIsOfThisProgram() {
        IsaForge x = Checks.machine("word 8; int i 8; ins v x:i = x;");
        Checks.same("with it", "ok 2", Checks.assembled(x, "old: v old\nv old"));
        Checks.same("without it", "fault 6 at 0", Checks.assembled(x, "v old"));
        Checks.same("again", "ok 1", Checks.assembled(x, "v old\nold:"));
        Checks.same("its new address", 1, x.word(0));
    }

    /** Term 2: "ADDRESSES are 0 to 4095", "(A LABEL behind the WORD at 4095 is 4096.)" */
    private static void aLabelBehindTheLastWordIs4096() {
        IsaForge x = Checks.machine("word 16; num n 16; ins v x:n = x;");
        Checks.same("assembled", "ok 4", Checks.assembled(x, "v a\nv b\nv c\n.at 4095\na: .word 5\nb:\nc: .at 0\n"));
        Checks.same("at the last word", 4095, x.word(0));
        Checks.same("behind it", 4096, x.word(1));
        Checks.same("behind it, before .at", 4096, x.word(2));
        Checks.same("the last word", 5, x.word(4095));
        Checks.same("labels", 3, x.count(4));
    }

    /** Term 2, FAULTS: 3 "a line that goes beyond 4095 (told: its first TOKEN behind the LABEL". */
    private static void aLineGoesTo4095AtMost() {
        IsaForge x = Checks.machine(MACHINE);
        Checks.same("two words", "ok 2", Checks.assembled(x, ".at 4094\ntwo"));
        Checks.same("the second", 1, x.word(4095));
        refuses(3, ".at 4095\n^two");
        refuses(3, ".at 4095\nx: ^two");
        refuses(3, ".at 4095\n^.word 1, 2");
        refuses(3, ".at 4095\nx: ^.word 1, 2");
        refuses(3, ".at 4095\nnop\n^nop");
        refuses(3, ".at 4095\nnop\nx:\ny: ^.word 1");
        refuses(3, ".at 4095\n^two\n.at 4095\ntwo");
        String words = ".word 0" + Checks.repeat(",0", 2900);
        Checks.same("up to the last", "ok 2901", Checks.assembled(x, ".at 1195\n" + words));
        Checks.same("the last", 0, x.word(4095));
        refuses(3, ".at 1196\n^" + words);
    }

    /** Term 2, FAULTS: 3 of a line, "when ADDRESSES were got": in the round in which it goes beyond. */
    private static void aLineMayGoBeyondInALaterRound() {
        refuses(GROWING, 3, ".at 4095\n^jmp 0");
        refuses(GROWING, 3, ".at 4094\njmp 0\n^nop");
        takes(GROWING, "jmp 4\n.at 2", "88 4");
        // It would go beyond with a form that it does not need.
        IsaForge x = Checks.machine(GROWING);
        Checks.same("the short one", "ok 1", Checks.assembled(x, ".at 4095\nx: jmp x"));
    }

    /** Term 2: "FORMS of a line are INSTRUCTIONS with its MNEMONIC". */
    private static void aFormHasTheMnemonic() {
        for (String other : new String[] {"NOP", "no", "nopp", "nop_", "_nop", "eq", "r1", "u", "word", "at"}) {
            refuses(6, "^" + other);
            refuses(6, "x: ^" + other);
        }
        refuses("word 8;", 6, "^nop");
    }

    /** Term 2, FORMS: "whose PARTS it is written as (up to its end)". */
    private static void aFormIsTheWholeLine() {
        takes("nop # 5\nnop#", "ff ff");
        refuses(6, "^nop 5");
        refuses(6, "^nop nop");
        refuses(6, "^nop ,");
        refuses(6, "^nop $");
        refuses(6, "^num\nnop");
        refuses(6, "^num 5 5");
        String machine = "word 8; reg r r 4; ins a ,()[]+-@ = 00000000; ins a x:r (y:r) = 0001 x y;";
        takes(machine, "a , ( ) [ ] + - @\na r1(r2)", "0 16");
        refuses(machine, 6, "^a ,()[]+-");
        refuses(machine, 6, "^a ,()[]+-@@");
        refuses(machine, 6, "^a ,()[]-+@");
        refuses(machine, 6, "^a r1(r2");
        refuses(machine, 6, "^a r1 r2");
        refuses(machine, 6, "^a");
    }

    /** Term 2, FORMS: "in their order", "At first each line has its first FORM". */
    private static void theFirstFormIsTakenFirst() {
        String same = "word 8; num n 4; ins v x:n = 0000 x; ins v x:n = 0001 x; ins v x:n , = 0010 x;";
        takes(same, "v 15", "f");
        takes(same, "v 15,", "2f");
        refuses(same, 7, "^v 16");
    }

    /** Term 2, FORMS: "PART by PART, a VALUE as far as it goes". */
    private static void aValueGoesAsFarAsItCan() {
        String machine = "word 8; num n 4; ins p a:n + b:n = a b; ins m a:n - b:n = a b; ins o - a:n = 0000 a;";
        takes(machine, "p 1 + 2\nm 1 - 2\no - 3", "12 12 3");
        takes(machine, "x: p x + x\nm x - x\np x + 2 + 3\nm x + 2 - 3\np x+0+x+1", "0 0 23 23 1");
        refuses(machine, 6, "x: ^p x + 2");
        refuses(machine, 6, "x: ^m x - 2");
        refuses(machine, 6, "x: ^p x + 2 + 3 + 4");
        refuses(machine, 6, "^o 3");
        refuses(machine, 7, "^o - - 3");
    }

    /** Term 2: "those whose VALUES do not fit into their FORM get their next one", whether it fits or not. */
    private static void aMisfitGetsItsNextForm() {
        String machine = "word 8; num a 1; num b 2; num c 3; num d 8; ins v x:a = 0000000 x; ins v x:b = 000001 x;"
            + " ins v x:c = 00001 x; ins v x:d = 11111111 | x;";
        takes(machine, "v 1\nv 3\nv 7\nv 255", "1 7 f ff ff");
        rounds(machine, 1, "v 1");
        rounds(machine, 2, "v 1\nv 2");
        rounds(machine, 3, "v 4\nv 2");
        rounds(machine, 4, "v 255");
        refuses(machine, 7, "^v 256");
    }

    /** Term 2, "all at once": a line before it that shrinks in the same round does not keep a line's form. */
    private static void misfitsMoveAllAtOnce() {
        String shrinking = "word 8; num n 1; num m 7; rel near 2; rel far 8;"
            + " ins s v:n = 0000000 v | 00000000 | 00000000; ins s v:m = 0 v;"
            + " ins j l:near = 100000 l; ins j l:far = 11111111 | l;";
        takes(shrinking, "x: s 2\nj x", "2 ff ff");
        takes(shrinking, "j x\ns 2\nx:", "ff 3 2");
        rounds(shrinking, 2, "x: s 2\nj x");
    }

    /** "forms of which each line goes to later ones alone": what has grown stays so when it need not. */
    private static void aLineGoesToLaterFormsAlone() {
        String machine = "word 8; num n 1; num m 7; rel near 3; rel far 8;"
            + " ins j l:near = 10000 l; ins j l:far = 11111110 | l; ins j l:near = 10001 l;"
            + " ins s v:n = 0000000 v | 00000000 | 00000000; ins s v:m = 0 v;";
        takes(machine, "j x\ns 1\nx:", "fe 5 1 0 0");
        // x is near enough once s has shrunk, with the first form and with the one behind.
        takes(machine, "j x\ns 2\nx:", "fe 3 2");
        takes(machine, "x: j x", "80");
    }

    /** Term 2, "until all fit": a chain in which each round moves one line more. */
    private static void roundsGoOnUntilAllFit() {
        takes(GROWING, "jmp c\nnop\nnop\nc:", "83 7f 7f");
        takes(GROWING, "jmp c\nnop\nnop\nnop\nc:", "88 5 7f 7f 7f");
        String chain = "jmp b\njmp c\nnop\nb: jmp d\nc: nop\nnop\nnop\nd:";
        takes(GROWING, chain, "88 5 88 5 7f 88 5 7f 7f 7f");
        rounds(GROWING, 4, chain);
        rounds(GROWING, 1, "jmp 3");
        rounds(GROWING, 2, "jmp 4");
    }

    /** Term 2: "num takes 0 to 2^N - 1". */
    private static void numTakesNBits() {
        String one = "word 8; num n 1; ins v x:n = 0000000 x;";
        takes(one, "v 0\nv 1\nv -0", "0 1 0");
        refuses(one, 7, "^v 2");
        refuses(one, 7, "^v -1");
        takes("num 0\nnum 15", "0 f");
        refuses(7, "^num 16");
        refuses(7, "^num -1");
        takes(WIDE, "num 0\nnum 4294967295", "0 ffffffff");
        refuses(WIDE, 7, "^num -1");
    }

    /** Term 2: "int and rel what N bits with sign hold", of int. */
    private static void intTakesNBitsWithSign() {
        String one = "word 8; int n 1; ins v x:n = 0000000 x;";
        takes(one, "v 0\nv -1", "0 1");
        refuses(one, 7, "^v 1");
        refuses(one, 7, "^v -2");
        takes("int -8\nint 7\nint -1", "18 17 1f");
        refuses(7, "^int 8");
        refuses(7, "^int -9");
        takes(WIDE, "int -2147483648\nint 2147483647\nint -1", "80000000 7fffffff ffffffff");
        refuses(WIDE, 7, "^int 2147483648");
        refuses(WIDE, 7, "^int -2147483649");
    }

    /** Term 2: "rel holds the VALUE less the ADDRESS of its line". */
    private static void relTakesNBitsFromItsLine() {
        takes("rel 0\nrel 0\nrel 9\nx: rel x\nrel x - 7\n", "20 2f 27 20 28");
        refuses(7, "^rel 8");
        refuses(7, "^rel -9");
        refuses(7, "nop\n^rel 9");
        refuses(7, "nop\nx: ^rel -8");
        takes("nop\nrel 8\nrel -6", "ff 27 28");
        String one = "word 8; rel n 1; ins v x:n = 0000000 x;";
        takes(one, "v 0\nv 0\nv 2\nv 2", "0 1 0 1");
        refuses(one, 7, "^v 1");
        // The line, not the word in which the bits stand.
        takes("word 8; rel n 8; ins v x:n = 00000000|11111111|x;", "v 0\nv 0", "0 ff 0 0 ff fd");
    }

    /** Term 2: "(a VALUE is of 64 bits)": none wraps around at 32. */
    private static void aValueDoesNotWrapAround() {
        takes(WIDE, "x: num x + 4294967295", "ffffffff");
        refuses(WIDE, 7, "num 0\nx: ^num x + 4294967295");
        refuses(WIDE, 7, "x: ^num x - 4294967295");
        refuses(WIDE, 7, "^num -4294967295");
        refuses(WIDE, 7, "^int 4294967295");
        refuses(WIDE, 7, "^int -4294967295");
        refuses(WIDE, 7, "num 0\nx: ^int x + 4294967295");
        refuses(WIDE, 7, "x: ^int x - 4294967295");
        refuses(WIDE, 7, "^rel 4294967295");
        refuses(WIDE, 7, "^rel 2147483648");
        takes(WIDE, "num 0\nrel 2147483648", "0 7fffffff");
        refuses(WIDE, 7, "num 0\n^rel 2147483649");
        takes(WIDE, "rel -2147483648\nrel -2147483647", "80000000 80000000");
        refuses(WIDE, 7, "num 0\n^rel -2147483648");
        refuses(WIDE, 7, "x: ^rel x - 4294967295");
    }

    /** Term 2, FAULTS: "1 as above": a TOKEN that is none, or with which nothing goes on. */
    private static void aTokenWithWhichNothingGoesOnIsFault1() {
        for (String other : new String[] {"$", "9a", "5", ",", ";", "=", "|", "(", ")", "[", "]", "+", "-", "@", "\t"}) {
            refuses(1, "^" + other);
            refuses(1, "nop\n\n^" + other + " nop");
            refuses(1, "x: ^" + other);
            refuses(1, ".^" + other);
            refuses(1, ".word 1 ^" + other.replace(",", "$"));
            refuses(1, ".at 1 ^" + other);
        }
    }

    /** Term 2, FAULTS: "2 a LABEL twice", told at the second. */
    private static void aLabelTwiceIsFault2() {
        refuses(2, "x:\n^x:");
        refuses(2, "x: nop\ny: nop\n^x: nop\nx: nop");
        refuses(2, "x:\n^x: .word 1");
        refuses(2, "x:\n^x: $");
        takes("x:\nX:\nxx:\n_x: nop", "ff");
        String start = Checks.repeat("l", 19);
        takes(start + "a:\n" + start + "b: nop", "ff");
        refuses(2, start + "a:\n^" + start + "a: nop");
        // Names of one length and one sum, as a table of names might mix them up.
        takes("Aa: num BB\nBB: num Aa", "1 0");
        refuses(2, "Aa:\nBB:\n^Aa:");
        refuses(6, "AaAa: ^num BBBB\nAaBB:\nBBAa:");
    }

    /** Term 2, FAULTS: "2 a LABEL twice", among as many as a text holds. */
    private static void eachOfManyLabelsIsAnother() {
        StringBuilder labels = new StringBuilder();
        int count = 0;
        for (char a = 'a'; a <= 'z'; a++) {
            labels.append(a).append(":\n");
            for (char b = 'A'; b <= 'Z'; b++) {
                labels.append(a).append(b).append(":\n").append(a).append(a).append(b).append(":\n");
                count += 2;
            }
            count++;
        }
        String most = labels.substring(0, labels.lastIndexOf("\n", 5980) + 1);
        int kept = most.length() - most.replace("\n", "").length();
        IsaForge x = Checks.machine(MACHINE);
        Checks.same("a text cannot hold all", true, kept < count);
        Checks.same("labels", "ok 0", Checks.assembled(x, most));
        Checks.same("their count", kept, x.count(4));
        refuses(2, most + "^a:");
        refuses(2, most + "^aaA:");
        refuses(2, most + "^bZ:");
    }

    /** Term 2, FAULTS: "6 no FORM (told: the MNEMONIC)"; "7 no more FORM that fits (told: the MNEMONIC)". */
    private static void noFormIsToldAtTheMnemonic() {
        refuses(6, "^foo");
        refuses(6, "nop\nx: ^foo 5, 6");
        refuses(6, "nop\nx: ^reg r12");
        refuses(7, "^num 16");
        refuses(7, "nop\nx: ^num 16");
    }

    /** Term 2, FAULTS: "8 an ADDRESS that is laid down twice (told: the first TOKEN of the line that comes later)". */
    private static void anAddressTwiceIsFault8() {
        refuses(8, "nop\n.at 0\n^nop");
        refuses(8, "nop\n.at 0\n^x: nop");
        refuses(8, ".word 1, 2\n.at 1\n^.word 3");
        refuses(8, ".word 1, 2\n.at 1\n^x: .word 3");
        refuses(8, ".at 1\nnop\n.at 0\n^two");
        refuses(8, ".at 2\nnop\n.at 0\ntwo\n^nop");
        refuses(8, ".at 4095\nnop\n.at 4095\n^x: nop");
        refuses(8, "nop\n.at 0\n^nop\n.at 0\nnop");
        takes(".at 1\nnop\n.at 0\nnop", "ff ff");
        takes("nop\n.at 0\n.at 1\nnop", "ff ff");
        takes("nop\n.at 0\nx:\ny: .at 1\nnop", "ff ff");
    }

    /** Term 2, FAULTS: "First 1, 2, and 3 of NUMBERS, TOKEN by TOKEN". */
    private static void readingFaultsComeTokenByToken() {
        refuses(1, "^$\n.word 256\nx:\nx:");
        refuses(3, ".word ^256\n$\nx:\nx:");
        refuses(2, "x:\n^x:\n.word 256\n$");
        refuses(3, "x: .word ^256\nx:");
        refuses(2, "x:\n^x: .word 256");
        refuses(3, ".word ^256 $");
        refuses(3, ".at ^4096, 5");
        refuses(1, ".word 1 ^$ 256");
        refuses(1, "foo\n^$");
        refuses(2, "x: foo\n^x:");
        refuses(3, "foo\n.at ^4096");
        refuses(1, "num 16\n.at 4095\ntwo\n.at 0\nnop\n^$");
    }

    /** Term 2, FAULTS: "(what stands behind a MNEMONIC is not looked at for them)". */
    private static void behindAMnemonicNothingIsLookedAt() {
        refuses(6, "^nop $");
        refuses(6, "^nop 4294967296 ; x: x: .word 256 .at 4096");
        refuses(6, "^nop x:\nx: nop");
        refuses(6, "x: ^nop x:");
        refuses(7, "^num 4294967295");
    }

    /** Term 2, FAULTS: "then 6 of the first line". */
    private static void then6OfTheFirstLine() {
        refuses(6, "nop\n^foo\nbar");
        refuses(6, ".at 4095\ntwo\n^foo");
        refuses(6, "num 16\n^foo");
        refuses(6, "nop\n.at 0\nnop\n^foo");
    }

    /** Term 2, FAULTS: "then, round by round, 3 of the first line that goes beyond, then 7 of the first line". */
    private static void thenRoundByRound3Before7() {
        refuses(3, "num 16\n.at 4095\n^two\n.at 4095\ntwo");
        refuses(7, "^num 16\nnum 17");
        // 7 in the first round before 3 in the second, and before 7 there.
        refuses(GROWING + "num n 1; ins v x:n = 0000000 x;", 7, ".at 4095\njmp 0\n.at 0\n^v 2");
        refuses(GROWING + "num n 1; ins v x:n = 0000000 x;", 7, "jmp 300\n^v 2");
        // 3 in the second round before 7 there.
        refuses(GROWING, 3, "jmp 300\n.at 4095\n^jmp 0");
        refuses(GROWING, 7, "nop\nx: ^jmp 300\n.at 9\njmp 400");
    }

    /** Term 2, FAULTS: "then 8". */
    private static void then8() {
        refuses(7, "nop\n.at 0\nnop\n^num 16");
        refuses(3, "nop\n.at 0\nnop\n.at 4095\n^two");
        // Only the forms that fit at last lie one upon the other.
        refuses(GROWING, 8, "jmp 9\n.at 1\n^nop");
        takes(GROWING, "jmp 3\n.at 1\nnop", "83 7f");
    }

    /** Promise 5: "THE TEXT is read as a PROGRAM and is empty then: how many WORDS were laid down". */
    private static void assembleEmptiesTheText() {
        IsaForge x = Checks.machine(MACHINE);
        Checks.same("assembled", "ok 3", Checks.assembled(x, "a: two\nnop"));
        Checks.same("bytes", 0, x.count(6));
        Checks.same("full", "ok 1", Checks.assembled(x, "nop" + Checks.repeat("\n", 5997)));
        Checks.same("bytes after the full one", 0, x.count(6));
        Checks.same("the empty one", 0, x.assemble());
        Checks.same("words", 0, x.count(3));
        Checks.same("labels", 0, x.count(4));
        Checks.same("rounds", 1, x.count(5));
    }

    /** Promise 5: the words of the PROGRAM before, and those that were poked, do not stay. */
    private static void assembleBeginsAnew() {
        IsaForge x = Checks.machine(MACHINE);
        Checks.assembled(x, "nop\nnop\n.at 4095\nnop");
        x.poke(9, 9);
        Checks.same("assembled", "ok 1", Checks.assembled(x, ".at 1\n.word 5"));
        Checks.same("the new one", 5, x.word(1));
        for (int address : new int[] {0, 2, 9, 4095}) {
            Checks.throwing("word " + address, NoSuchElementException.class, () -> x.word(address));
        }
    }

    /** Promise 5: "IllegalStateException without a DESCRIPTION (THE TEXT stays, and what kind and place tell)". */
    private static void assembleNeedsADescription() {
        Checks.refused("new", IllegalStateException.class, IsaForge::new, IsaForge::assemble);
        Checks.refused("with a text", IllegalStateException.class, ProgramEdgesTest::withTextAlone, IsaForge::assemble);
        Checks.refused("behind a fault", IllegalStateException.class, ProgramEdgesTest::behindAFault, IsaForge::assemble);
        IsaForge x = behindAFault();
        Checks.throwing("behind a fault", IllegalStateException.class, x::assemble);
        Checks.same("kind", 3, x.kind());
        Checks.same("place", 1, x.place());
        Checks.same("bytes", 7, x.count(6));
        Checks.same("described", 0, x.describe());
    }

    private static IsaForge withTextAlone() {
        IsaForge x = new IsaForge();
        Checks.feed(x, "word 8; ins nop = 00000000;");
        return x;
    }

    private static IsaForge behindAFault() {
        IsaForge x = Checks.machine(MACHINE);
        Checks.described(x, "word 9;");
        Checks.feed(x, "word 8;");
        return x;
    }

    /** Promise 5: "UnsupportedOperationException for a FAULT (nothing is laid down then, what was before is gone)". */
    private static void aFaultLaysNothingDown() {
        for (String fault : new String[] {"$", "a:\na:", ".at 4096", ".at 4095\ntwo", "foo", "num 16", "nop\n.at 0\nnop"}) {
            IsaForge x = Checks.machine(MACHINE);
            Checks.assembled(x, "a: nop\n.at 4095\nnop");
            x.poke(9, 9);
            x.list(0);
            Checks.feed(x, fault);
            Checks.throwing("<" + fault + ">", UnsupportedOperationException.class, x::assemble);
            for (int address : new int[] {0, 1, 9, 4095}) {
                Checks.throwing("word " + address, NoSuchElementException.class, () -> x.word(address));
            }
            for (int what = 3; what <= 6; what++) {
                Checks.same("count(" + what + ")", 0, x.count(what));
            }
            Checks.same("the description stays", 7, x.count(0));
            Checks.same("the listing stays", "nop", Checks.listing(x));
            Checks.same("which stays", 6, x.which());
            Checks.same("the next", "ok 1", Checks.assembled(x, "a: nop"));
            Checks.same("its labels", 1, x.count(4));
        }
    }

    /** Promise 4: "(THE LISTING stays, also by assemble)". */
    private static void theListingStaysByAssemble() {
        IsaForge x = Checks.machine(MACHINE);
        Checks.assembled(x, "num 15");
        x.list(0);
        Checks.same("assembled", "ok 1", Checks.assembled(x, "nop"));
        Checks.same("the listing", "num 15", Checks.listing(x));
        Checks.same("its instruction", 0, x.which());
        Checks.same("its bytes", 6, x.count(7));
    }
}
