/** Promise 4 with kind and place (6, 7) of a description. */
final class DescribeTest {
    private static final String NUM = "word 8; num n 4; ins a x:n = ";

    private DescribeTest() {
    }

    public static void main(String[] args) {
        good();
        statements();
        kinds();
        sets();
        parts();
        bits();
        operandBits();
        limits();
        state();
        Checks.finish();
    }

    private static void is(String due, String text) {
        Checks.same("<" + text + ">", due, Checks.described(text));
    }

    private static void good() {
        is("ok 7", Checks.MACHINE);
        is("ok 0", "word 8;");
        is("ok 0", "word 16;");
        is("ok 0", "word 32;");
        is("ok 1", NUM + "0101 x;");
        is("ok 1", NUM + "01 x[3] 0 x[2:0] 1;");
        is("ok 1", "word 8; ins a = 00000000|11111111|00000000|1 1 1 1 0000;");
        // The words of statements are names like others.
        is("ok 1", "word 8; num word 4; num num 4; reg reg reg 2; set set set reg;"
            + " ins ins ins:num + num:set word:reg = 00 ins num word;");
        is("ok 2", "word 8; ins a = 00000000; ins a = 00000000;");
    }

    private static void statements() {
        is("fault 1 at 0", "");
        is("fault 1 at 0", "# nothing\n");
        is("fault 1 at 0", "num a 3;");
        is("fault 1 at 0", ";");
        is("fault 1 at 1", "word");
        is("fault 1 at 1", "word x;");
        is("fault 3 at 1", "word 9;");
        is("fault 3 at 1", "word 0;");
        is("fault 3 at 1", "word 64;");
        is("fault 1 at 2", "word 8");
        is("fault 1 at 2", "word 8 8;");
        is("fault 1 at 3", "word 8; word 8;");
        is("fault 1 at 3", "word 8;;");
        is("fault 1 at 3", "word 8; foo a 3;");
        is("fault 1 at 3", "word 8; 5");
        is("fault 1 at 3", "word 8; $");
        is("fault 1 at 3", "word 8;\n\n REG");
        is("fault 1 at 1", "word # 8;\n");
    }

    private static void kinds() {
        is("ok 0", "word 8; reg a r 1;");
        is("ok 0", "word 8; reg a r 64;");
        is("fault 3 at 6", "word 8; reg a r 0;");
        is("fault 3 at 6", "word 8; reg a r 65;");
        is("fault 1 at 5", "word 8; reg a r1 4;");
        is("fault 1 at 5", "word 8; reg a r_ 4;");
        is("fault 1 at 5", "word 8; reg a 4;");
        is("fault 1 at 6", "word 8; reg a r;");
        is("fault 1 at 7", "word 8; reg a r 4");
        is("fault 1 at 4", "word 8; reg 5 r 4;");
        is("ok 0", "word 8; num a 1; int b 1; rel c 1; num d 32; int e 32; rel f 32;");
        is("fault 3 at 5", "word 8; num a 0;");
        is("fault 3 at 5", "word 8; int a 33;");
        is("fault 3 at 5", "word 8; rel a 4294967295;");
        is("fault 1 at 5", "word 8; rel a b;");
        is("fault 1 at 6", "word 8; rel a 4 4;");
        is("fault 2 at 8", "word 8; num a 3; int a 4;");
        is("fault 2 at 9", "word 8; reg a r 3; set a x y;");
        is("ok 0", "word 8; reg a r 3; reg b r 4; num r 3;");
    }

    private static void sets() {
        is("fault 1 at 5", "word 8; set s;");
        is("fault 1 at 6", "word 8; set s x;");
        is("fault 1 at 5", "word 8; set s 1 x;");
        is("fault 1 at 6", "word 8; set s x, y;");
        is("fault 1 at 7", "word 8; set s x y 5;");
        is("fault 1 at 7", "word 8; set s x y");
        is("fault 2 at 6", "word 8; set s x x;");
        is("fault 2 at 7", "word 8; set s x y x;");
        is("ok 0", "word 8; set s x s; set t x s;");
        StringBuilder names = new StringBuilder("word 8; set s");
        for (int i = 0; i < 32; i++) {
            names.append(" n").append(i);
        }
        is("ok 0", names + ";");
        is("fault 3 at 37", names + " n32;");
        is("fault 2 at 37", names + " n31;");
        is("fault 1 at 37", names + " 5;");
    }

    private static void parts() {
        is("fault 1 at 4", "word 8; ins = 00000000;");
        is("fault 1 at 5", "word 8; ins a");
        is("fault 1 at 5", "word 8; ins a;");
        is("fault 1 at 5", "word 8; ins a 5 = 00000000;");
        is("fault 1 at 5", "word 8; ins a | = 00000000;");
        is("fault 1 at 5", "word 8; ins a . = 00000000;");
        is("ok 1", "word 8; ins a ,()[]+-@ = 00000000;");
        is("fault 1 at 10", "word 8; num n 4; ins a x = 0101 x;");
        is("fault 1 at 11", "word 8; num n 4; ins a x:4 = 0101 x;");
        is("fault 2 at 11", "word 8; num n 4; ins a x:m = 0101 x;");
        is("fault 2 at 13", "word 8; num n 4; ins a x:n, x:n = 0101 x;");
        is("fault 2 at 7", "word 8; ins a x:n = 00000000;");
        is("ok 1", "word 8; ins a ,,,,,,,,,,,, = 00000000;");
        is("fault 3 at 17", "word 8; ins a ,,,,,,,,,,,,, = 00000000;");
        is("fault 1 at 17", "word 8; ins a ,,,,,,,,,,,,; = 00000000;");
        String ops = "word 8; num n 1; ins a p:n q:n r:n s:n t:n";
        is("ok 1", ops + " = 000 p q r s t;");
        is("fault 3 at 24", ops + " u:n = 00 p q r s t u;");
        is("fault 2 at 24", ops + " t:n = 00 p q r s t u;");
        is("ok 1", ops + " ,,,,,,, = 000 p q r s t;");
        is("fault 3 at 31", ops + " ,,,,,,,, = 000 p q r s t;");
        is("fault 3 at 29", "word 8; num n 1; ins a p:n q:n r:n s:n ,,,,,,,, t:n = 0;");
        is("fault 2 at 29", "word 8; num n 1; ins a p:n q:n r:n s:n ,,,,,,,, s:n = 0;");
    }

    private static void bits() {
        is("fault 4 at 6", "word 8; ins a = ;");
        is("fault 4 at 6", "word 8; ins a = | 00000000;");
        is("fault 4 at 8", "word 8; ins a = 00000000 | ;");
        is("fault 4 at 7", "word 8; ins a = 0101;");
        is("fault 4 at 7", "word 8; ins a = 010101010;");
        is("fault 4 at 7", "word 8; ins a = 0101 | 00000000;");
        is("fault 4 at 9", "word 8; ins a = 00000000 | 0101010;");
        is("ok 1", "word 16; ins a = 0101010101 010101;");
        is("fault 1 at 6", "word 16; ins a = 01010101010 10101;");
        is("fault 3 at 6", "word 8; ins a = 00000002;");
        is("fault 3 at 6", "word 8; ins a = 0x11;");
        is("fault 3 at 7", "word 8; ins a = 0000000000 9;");
        is("fault 1 at 7", "word 8; ins a = 00000000");
        is("fault 1 at 7", "word 8; ins a = 00000000 , ;");
        is("fault 1 at 6", "word 8; ins a = = 00000000;");
        is("fault 2 at 6", "word 8; ins a = x;");
        is("fault 2 at 14", NUM + "0101 y;");
        is("fault 2 at 14", NUM + "0101 n;");
        is("fault 3 at 13", "word 8; ins X = 00000000|00000000|00000000|00000000|00000000;");
        is("fault 3 at 13", "word 8; ins X = 00000000|00000000|00000000|0|0;");
        is("fault 3 at 13", "word 8; ins X = 00000000|00000000|00000000|0|;");
        is("fault 3 at 12", "word 8; ins X = 00000000|00000000|00000000||;");
        is("fault 4 at 13", "word 8; ins X = 00000000|00000000|00000000|0;");
    }

    private static void operandBits() {
        is("fault 3 at 16", NUM + "0101 x[4];");
        is("fault 3 at 16", NUM + "0101 x[4:0];");
        is("fault 3 at 18", NUM + "0101 x[2:3];");
        is("ok 1", NUM + "0101 x[3:1] x[0:0];");
        is("fault 1 at 16", NUM + "0101 x[];");
        is("fault 1 at 17", NUM + "0101 x[3;");
        is("fault 1 at 18", NUM + "0101 x[3:];");
        is("fault 1 at 19", NUM + "0101 x[3:0;");
        is("fault 1 at 17", NUM + "0101 x[3,0];");
        is("fault 5 at 21", NUM + "0101 x[3:1] 0;");
        is("fault 5 at 26", "word 8; num n 4; ins a x:n = 01 x[3:0] x[1:0];");
        is("fault 5 at 14", NUM + "01010101;");
        is("fault 5 at 15", NUM + "x x;");
        is("fault 4 at 15", NUM + "x 010;");
        is("fault 4 at 16", NUM + "x x x;");
        // A reg and a set have the bits of their last one, at least 1.
        is("ok 1", "word 8; reg k r 1; ins a x:k = 0000000 x;");
        is("ok 1", "word 8; reg k r 2; ins a x:k = 0000000 x;");
        is("ok 1", "word 8; reg k r 3; ins a x:k = 000000 x;");
        is("ok 1", "word 8; reg k r 32; ins a x:k = 000 x;");
        is("ok 1", "word 8; reg k r 33; ins a x:k = 00 x;");
        is("ok 1", "word 8; reg k r 64; ins a x:k = 00 x;");
        is("ok 1", "word 8; set k a b; ins a x:k = 0000000 x;");
        is("ok 1", "word 8; set k a b c d; ins a x:k = 000000 x;");
        is("ok 1", "word 8; set k a b c d e; ins a x:k = 00000 x;");
        is("ok 1", "word 32; num k 32; ins a x:k = x;");
        is("ok 1", "word 8; num k 32; ins a x:k = x[31:24] | x[23:16] | x[15:8] | x[7:0];");
        is("fault 4 at 14", "word 8; num k 32; ins a x:k = x;");
    }

    private static void limits() {
        StringBuilder kinds = new StringBuilder("word 8;");
        for (int i = 0; i < 40; i++) {
            kinds.append("num k").append(i).append(" 1;");
        }
        is("ok 0", kinds.toString());
        is("fault 3 at 164", kinds + "num k40 1;");
        is("fault 2 at 164", kinds + "num k39 1;");
        is("fault 1 at 164", kinds + "num 5 1;");
        String many = "word 8;" + Checks.repeat("ins a=00000000;", 96);
        is("ok 96", many);
        is("fault 3 at 484", many + "ins a=00000000;");
        is("fault 1 at 484", many + "ins 5;");
        is("ok 96", many + "num k 1;");
    }

    private static void state() {
        IsaForge x = Checks.machine(Checks.MACHINE);
        Checks.same("text is empty", 0, x.count(6));
        Checks.same("assemble", "ok 1", Checks.assembled(x, "a: nop"));
        Checks.same("list", 1, x.list(0));
        Checks.same("again", "ok 1", Checks.described(x, "word 8; ins one = 00000001;"));
        Checks.same("the program is gone", 0, x.count(3));
        Checks.same("its labels", 0, x.count(4));
        Checks.same("its rounds", 0, x.count(5));
        Checks.throwing("its words", java.util.NoSuchElementException.class, () -> x.word(0));
        Checks.same("the listing stays", "nop", Checks.listing(x));
        Checks.same("which stays", 6, x.which());
        Checks.same("kinds", 0, x.count(2));
        x.poke(0, 1);
        Checks.same("a fault", "fault 1 at 0", Checks.described(x, "words"));
        Checks.same("text is empty after a fault", 0, x.count(6));
        for (int what = 0; what <= 5; what++) {
            Checks.same("no description, count " + what, 0, x.count(what));
        }
        Checks.throwing("no words", java.util.NoSuchElementException.class, () -> x.word(0));
        Checks.throwing("no instruction", IndexOutOfBoundsException.class, () -> x.told(0, 0));
        Checks.throwing("no poke", IllegalStateException.class, () -> x.poke(0, 0));
        Checks.throwing("no assemble", IllegalStateException.class, x::assemble);
        Checks.same("good again", "ok 0", Checks.described(x, "word 32;"));
    }
}
