import java.util.ArrayList;
import java.util.List;
import java.util.Objects;

/** What the tests share: feeding texts, comparing answers, and the exit code. */
final class Checks {
    /** A call whose answer or exception is looked at. */
    interface Call {
        long run();
    }

    /** A description with each sort of kind, used where the description itself is not the matter. */
    static final String MACHINE = "word 16; reg r r 16; num u 8; int i 6; rel j 4; rel far 16;"
        + " set c eq ne lt; # a machine\n"
        + "ins add a:r, b:r = 0000 a b 0000; ins add a:r, v:u = 0001 a v;"
        + " ins b l:j = 00100000 1111 l; ins b l:far = 0011 0000000000 00 | l;"
        + " ins ld a:r, [b:r + v:i] = 0100 a b v[5:2] | 1111 v[1:0] 0000000000;"
        + " ins j k:c @ x:u = 0101 k[0] x[7] k[1] x[6:0] 00; ins nop = 0000 0000 0000 0000;";

    private static int checked = 0;
    private static final List<String> WRONG = new ArrayList<>();

    private Checks() {
    }

    static void same(String what, Object due, Object got) {
        checked++;
        if (!Objects.equals(due, got)) {
            WRONG.add(what + " answered " + got + ", due is " + due);
        }
    }

    static void same(String what, long due, long got) {
        same(what, Long.valueOf(due), Long.valueOf(got));
    }

    static void throwing(String what, Class<? extends RuntimeException> due, Call call) {
        String got;
        try {
            got = "answer " + call.run();
        } catch (RuntimeException e) {
            got = e.getClass().getName();
        }
        same(what, due.getName(), got);
    }

    /** Prints what was wrong; exit code 1 if there was anything. */
    static void finish() {
        for (String line : WRONG) {
            System.out.println(line);
        }
        System.out.println(checked + " answers looked at, " + WRONG.size() + " wrong");
        if (!WRONG.isEmpty() || checked == 0) {
            System.exit(1);
        }
    }

    /** Puts a text behind THE TEXT: how many tokens that has then. */
    static int feed(IsaForge x, String text) {
        int size = x.count(6) + text.length();
        for (int i = 0; i < text.length(); i += 20) {
            x.feed(four(text, i), four(text, i + 4), four(text, i + 8), four(text, i + 12),
                four(text, i + 16));
        }
        return x.end(size);
    }

    private static int four(String text, int at) {
        int value = 0;
        for (int i = at; i < at + 4; i++) {
            value = value << 8 | (i < text.length() ? text.charAt(i) & 255 : 0);
        }
        return value;
    }

    /** A new object with a description. */
    static IsaForge machine(String description) {
        IsaForge x = new IsaForge();
        feed(x, description);
        x.describe();
        return x;
    }

    /** What describe says of a text: "ok" and its answer, or "fault", its kind and its place. */
    static String described(IsaForge x, String text) {
        feed(x, text);
        return outcome(x, x::describe);
    }

    static String described(String text) {
        return described(new IsaForge(), text);
    }

    /** What assemble says of a text. */
    static String assembled(IsaForge x, String text) {
        feed(x, text);
        return outcome(x, x::assemble);
    }

    private static String outcome(IsaForge x, Call call) {
        try {
            long answer = call.run();
            boolean clean = x.kind() == 0 && x.place() == -1;
            return clean ? "ok " + answer : "ok with kind " + x.kind() + " place " + x.place();
        } catch (UnsupportedOperationException e) {
            return "fault " + x.kind() + " at " + x.place();
        }
    }

    /** The words from address 0 on, up to the first that is not laid down. */
    static String words(IsaForge x) {
        StringBuilder words = new StringBuilder();
        for (int i = 0; i < 4096; i++) {
            try {
                words.append(i == 0 ? "" : " ").append(Long.toHexString(x.word(i)));
            } catch (java.util.NoSuchElementException e) {
                break;
            }
        }
        return words.toString().trim();
    }

    /** THE LISTING as a text. */
    static String listing(IsaForge x) {
        StringBuilder text = new StringBuilder();
        for (int i = 0; i < x.count(7); i++) {
            text.append((char) (x.listing(i) >>> 56));
        }
        return text.toString();
    }

    /** Lists an address: which instruction it is of, how many words, and the text. */
    static String listed(IsaForge x, int address) {
        int words = x.list(address);
        return x.which() + "/" + words + " " + listing(x);
    }

    static String repeat(String part, int times) {
        return part.repeat(times);
    }
}
