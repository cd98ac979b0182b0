/** Promise 5 with kind and place (6, 7, 17) of a program. */
final class AssembleTest {
    private static final String FORMS = "word 8; num small 2; int mid 4; rel near 3; rel far 8; reg r r 12;"
        + " set c eq ne; num wide 8;"
        + " ins v x:small = 000000 x; ins v x:mid = 1111 x; ins v x:wide = 00001111 | x;"
        + " ins jmp l:near = 10000 l; ins jmp l:far = 10001000 | l;"
        + " ins two a:small + b:small = 0010 a b; ins neg - a:small = 010000 a;"
        + " ins reg a:r = 0101 a; ins set a:c = 0110000 a; ins pair a:r b:r = 1010 a | 1011 b;"
        + " ins nop = 01111111;";

    private AssembleTest() {
    }

    public static void main(String[] args) {
        lines();
        values();
        operands();
        growth();
        addresses();
        faultOrder();
        state();
        Checks.finish();
    }

    /** A program on a new object: its outcome, its words, and its labels and rounds. */
    private static void is(String due, String words, String text) {
        IsaForge x = Checks.machine(FORMS);
        Checks.same("<" + text + ">", due, Checks.assembled(x, text));
        Checks.same("words of <" + text + ">", words, Checks.words(x));
    }

    private static void bad(String due, String text) {
        IsaForge x = Checks.machine(FORMS);
        x.poke(7, 7);
        Checks.same("<" + text + ">", due, Checks.assembled(x, text));
        Checks.same("nothing laid by <" + text + ">", 0, x.count(3));
        Checks.same("no labels of <" + text + ">", 0, x.count(4));
        Checks.same("no rounds of <" + text + ">", 0, x.count(5));
        Checks.same("no text behind <" + text + ">", 0, x.count(6));
    }

    private static void rounds(int due, String text) {
        IsaForge x = Checks.machine(FORMS);
        Checks.assembled(x, text);
        Checks.same("rounds of <" + text + ">", due, x.count(5));
    }

    private static void lines() {
        is("ok 0", "", "");
        is("ok 0", "", "\n\n # a\n");
        is("ok 1", "7f", "nop");
        is("ok 1", "7f", "\n\nnop # x y z $\n");
        is("ok 2", "7f 7f", "nop:nop\nx:\ny:\n nop\n");
        is("ok 3", "1 2 ff", ".word 1, 0x2,255");
        is("ok 3", "1 2 7f", ". word 1\n. word 2\nnop");
        bad("fault 1 at 0", "5");
        bad("fault 1 at 0", ":");
        bad("fault 1 at 0", "$");
        bad("fault 1 at 3", "\n\n\n,");
        bad("fault 1 at 2", "a: $");
        bad("fault 1 at 2", "a: : b");
        bad("fault 1 at 1", ".");
        bad("fault 1 at 1", ".\nword 1");
        bad("fault 1 at 1", ".byte 1");
        bad("fault 1 at 1", ".5");
        bad("fault 1 at 2", ".word");
        bad("fault 1 at 2", ".word\n1");
        bad("fault 1 at 4", ".word 1,");
        bad("fault 1 at 4", ".word 1,\n2");
        bad("fault 1 at 3", ".word 1 2");
        bad("fault 1 at 2", ".word -1");
        bad("fault 1 at 2", ".word x\nx:");
        bad("fault 3 at 2", ".word 256");
        bad("fault 3 at 4", ".word 255, 4294967295");
        bad("fault 1 at 2", ".at");
        bad("fault 1 at 3", ".at 5, 6");
        bad("fault 3 at 2", ".at 4096");
        bad("fault 1 at 2", ".at x\nx:");
        bad("fault 2 at 4", "x: nop\nx: nop");
        bad("fault 2 at 3", "x:\nx:");
        // The second of two in one line is a mnemonic.
        bad("fault 6 at 2", "x: x: nop");
    }

    private static void values() {
        is("ok 1", "3", "v 3");
        is("ok 1", "f4", "v 4");
        is("ok 1", "ff", "v -1");
        is("ok 1", "0", "v -0");
        is("ok 1", "f8", "v -8");
        is("ok 2", "f 8", "v 8");
        is("ok 2", "f ff", "v 255");
        bad("fault 7 at 0", "v 256");
        bad("fault 7 at 0", "v -9");
        bad("fault 7 at 0", "v 4294967295");
        bad("fault 7 at 2", "a:v -4294967295");
        is("ok 1", "2", "v x + 2\n.at 0\nx:");
        is("ok 1", "ff", "v x - 1\n.at 0\nx:");
        is("ok 1", "2", "v x+2\n.at 0\nx:");
        bad("fault 6 at 0", "v x\n");
        bad("fault 6 at 0", "v - x\nx:");
        bad("fault 6 at 0", "v + 1");
        bad("fault 6 at 0", "v 1 + 1");
        bad("fault 6 at 0", "v x + x\nx:");
        bad("fault 6 at 0", "v x + 1 + 1\nx:");
        bad("fault 6 at 0", "v");
        bad("fault 6 at 0", "v -");
        bad("fault 6 at 0", "v 1 2");
        bad("fault 6 at 0", "v $");
        // A value goes as far as it can, whatever parts come behind it.
        is("ok 1", "26", "two 1 + 2");
        is("ok 1", "22", "two x + x + 2\n.at 0\nx:");
        is("ok 1", "2c", "two x + 3 + 0\n.at 0\nx:");
        is("ok 1", "20", "two x + x\n.at 0\nx:");
        bad("fault 6 at 0", "two x + 2\n.at 0\nx:");
        is("ok 1", "43", "neg - 3");
        bad("fault 6 at 0", "neg 3");
        bad("fault 6 at 0", "neg");
        bad("fault 7 at 0", "neg - - 3");
    }

    private static void operands() {
        is("ok 1", "50", "reg r0");
        is("ok 1", "5b", "reg r11");
        bad("fault 6 at 0", "reg r12");
        bad("fault 6 at 0", "reg r00");
        bad("fault 6 at 0", "reg r01");
        bad("fault 6 at 0", "reg r");
        bad("fault 6 at 0", "reg r100");
        bad("fault 6 at 0", "reg r1_");
        bad("fault 6 at 0", "reg R1");
        bad("fault 6 at 0", "reg r 1");
        bad("fault 6 at 0", "reg x1");
        bad("fault 6 at 0", "reg 1");
        is("ok 1", "60", "set eq");
        is("ok 1", "61", "set ne");
        bad("fault 6 at 0", "set e");
        bad("fault 6 at 0", "set eqq");
        bad("fault 6 at 0", "set eq ne");
        is("ok 2", "a1 b2", "pair r1 r2");
        bad("fault 6 at 0", "pair r1, r2");
        bad("fault 6 at 0", "pair r1r2");
        bad("fault 6 at 0", "NOP");
        bad("fault 6 at 0", "nop nop");
        bad("fault 6 at 2", "nop\nnope");
        // A label may be named as a register or a member of a set is.
        is("ok 2", "50 0", "reg r0\nv r0 - 1\n.at 1\nr0:");
    }

    private static void growth() {
        is("ok 1", "80", "x: jmp x");
        is("ok 1", "83", "jmp 3");
        is("ok 2", "88 4", "jmp 4");
        is("ok 1", "84", "jmp -4");
        is("ok 2", "88 fb", "jmp -5");
        is("ok 6", "83 83 7f 7f f 8", "jmp b\njmp c\nnop\nb: nop\nc: v 8");
        is("ok 7", "88 5 83 7f 7f f 8", "jmp c\njmp c\nnop\nnop\nc: v 8");
        rounds(1, "jmp 3");
        rounds(2, "jmp 4");
        rounds(1, "");
        rounds(3, "v 8");
        String cascade = "jmp a\njmp b\nnop\na: jmp c\nb: nop\nnop\nc: .word 1, 2";
        is("ok 8", "83 83 7f 83 7f 7f 1 2", cascade);
        // The third jmp grows, and pushes b away from the second one, and that a from the first.
        String pushed = "jmp a\njmp b\nnop\na: jmp c\nb: nop\nnop\nnop\nc: .word 1, 2";
        is("ok 12", "88 5 88 5 7f 88 5 7f 7f 7f 1 2", pushed);
        rounds(4, pushed);
        // A form is never taken back: x lies near again once the line before it has shrunk.
        IsaForge x = Checks.machine("word 8; num n 1; num m 8; rel near 2;"
            + " ins s v:n = 0000000 v | 00000000 | 00000000; ins s v:m = v;"
            + " ins j l:near = 100000 l; ins j l:m = 11111111 | l;");
        Checks.same("shrinking", "ok 4", Checks.assembled(x, "j x\ns 2\nx: .word 7"));
        Checks.same("words", "ff 3 2 7", Checks.words(x));
        Checks.same("rounds", 2, x.count(5));
    }

    private static void addresses() {
        IsaForge x = Checks.machine(FORMS);
        Checks.same("at", "ok 4", Checks.assembled(x, "a: .at 40\nnop\n.at 3\nb: .word 9\n.at 4095\nnop\n"
            + "c:\nd: .at 7\ne: v a"));
        Checks.same("word 40", 0x7f, x.word(40));
        Checks.same("word 3", 9, x.word(3));
        Checks.same("word 4095", 0x7f, x.word(4095));
        Checks.same("word 7", 0, x.word(7));
        Checks.same("labels", 5, x.count(4));
        IsaForge y = Checks.machine("word 16; num n 16; ins v x:n = x;");
        Checks.same("4096", "ok 3", Checks.assembled(y, "v c\nv d\n.at 4095\n.word 5\nc:\nd: .at 9\n"));
        Checks.same("label behind 4095", 4096, y.word(0));
        Checks.same("label before .at", 4096, y.word(1));
        bad("fault 3 at 4", ".at 4095\npair r1 r2");
        bad("fault 3 at 6", ".at 4095\na: pair r1 r2");
        bad("fault 3 at 6", ".at 4095\na: .word 1, 2");
        bad("fault 3 at 6", ".at 4095\nnop\nnop");
        // It goes beyond only in the second round.
        bad("fault 3 at 4", ".at 4095\njmp 0");
        bad("fault 8 at 6", "nop\n.at 0\nnop");
        bad("fault 8 at 8", ".word 1\n.at 0\nx: .word 2");
        bad("fault 8 at 8", ".word 1\n.at 0\nx: nop");
        bad("fault 8 at 6", "nop\n.at 0\npair r1 r2\n.at 1\nnop");
        bad("fault 8 at 12", ".at 1\nnop\n.at 0\nnop\nnop\n.at 0\nnop");
        is("ok 2", "7f 7f", ".at 1\nnop\n.at 0\nnop");
    }

    private static void faultOrder() {
        // 1, 2 and 3 of numbers come before 6, wherever they stand.
        bad("fault 1 at 2", "foo\n$");
        bad("fault 2 at 6", "a:\nfoo x\na: nop");
        bad("fault 3 at 4", "foo\n.at 5000");
        // Token by token among them.
        bad("fault 3 at 2", ".word 256\n$");
        bad("fault 1 at 0", "$\n.word 256");
        // What stands behind a mnemonic is not looked at for them.
        bad("fault 6 at 0", "foo $ 5000 : ;\nnop");
        // 6 before 3 of lines, before 7, before 8.
        bad("fault 6 at 8", ".at 4095\npair r1 r2\nfoo");
        bad("fault 6 at 3", "v 256\nfoo");
        bad("fault 6 at 0", "foo\nbar");
        // In one round 3 before 7.
        bad("fault 3 at 8", "neg - 4\n.at 4095\npair r1 r2");
        // 7 of an earlier round before 3 of a later one.
        bad("fault 7 at 4", ".at 4095\nneg - 4\n.at 4095\njmp 0");
        bad("fault 7 at 0", "neg - 4\nneg - 5");
        bad("fault 7 at 6", "nop\n.at 0\nneg - 4");
        // 7 of a line whose last form does not fit, in the round when that shows.
        bad("fault 7 at 3", "v 256\nneg - 4");
    }

    private static void state() {
        IsaForge x = new IsaForge();
        Checks.feed(x, "nop");
        Checks.throwing("no description", IllegalStateException.class, x::assemble);
        Checks.same("the text stays", 3, x.count(6));
        Checks.same("kind stays", 0, x.kind());
        Checks.same("a fault", "fault 1 at 0", Checks.described(x, ""));
        Checks.feed(x, "nop");
        Checks.throwing("none again", IllegalStateException.class, x::assemble);
        Checks.same("kind stays again", 1, x.kind());
        Checks.same("place stays again", 0, x.place());
        x.end(0);
        Checks.same("described", "ok 11", Checks.described(x, FORMS));
        Checks.same("assembled", "ok 2", Checks.assembled(x, "a: nop\nb: nop"));
        x.list(1);
        Checks.same("a fault", "fault 6 at 0", Checks.assembled(x, "foo"));
        Checks.same("kind", 6, x.kind());
        Checks.same("what was before is gone", 0, x.count(3));
        Checks.throwing("its words too", java.util.NoSuchElementException.class, () -> x.word(0));
        Checks.same("the description stays", 11, x.count(0));
        Checks.same("the listing stays", "nop", Checks.listing(x));
        Checks.same("assembled again", "ok 1", Checks.assembled(x, "nop"));
        Checks.same("kind is 0 again", 0, x.kind());
        Checks.same("place is -1 again", -1, x.place());
        Checks.same("one word", "7f", Checks.words(x));
        Checks.same("no labels", 0, x.count(4));
        // The end is as many as there are tokens, line ends counted in a program alone.
        Checks.same("end of a program", "fault 1 at 5", Checks.assembled(x, "\n\n\n.word"));
        Checks.same("end of a description", "fault 1 at 1", Checks.described(x, "\n\nword\n\n"));
    }
}
