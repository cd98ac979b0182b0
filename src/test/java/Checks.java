import java.lang.reflect.InvocationTargetException;
import java.lang.reflect.Method;
import java.util.ArrayList;
import java.util.List;
import java.util.NoSuchElementException;
import java.util.Objects;
import java.util.function.Supplier;
import java.util.regex.Matcher;
import java.util.regex.Pattern;

/** What the tests share: feeding texts, comparing answers, and the exit code. */
final class Checks {
    /** A call whose answer or exception is looked at. */
    interface Call {
        long run();
    }

    /** A description with each sort of kind, used where the description itself is not the matter. */
    static final String MACHINE = "word 16; reg r r 16; num u 8; int i 6; rel j 4; rel far 16;"
        + " set c eq ne lt; # a machine\n"
        + "ins add a:r, b:r = 0000 a b 0000; ins add a:r, v:u = 0001 a v;"
        + " ins b l:j = 00100000 1111 l; ins b l:far = 0011 0000000000 00 | l;"
        + " ins ld a:r, [b:r + v:i] = 0100 a b v[5:2] | 1111 v[1:0] 0000000000;"
        + " ins j k:c @ x:u = 0101 k[0] x[7] k[1] x[6:0] 00; ins nop = 0000 0000 0000 0000;";

    /** What a test's text has in front of the token that a fault is told of; it is no token itself. */
    private static final char MARK = '^';
    private static final Pattern TOKEN = Pattern.compile("#[^\n]*|\n|\\w+|[^ ]");

    private static int checked = 0;
    private static String running = "";
    private static final List<String> WRONG = new ArrayList<>();

    private Checks() {
    }

    static void same(String what, Object due, Object got) {
        checked++;
        if (!Objects.equals(due, got)) {
            WRONG.add(running + what + " answered " + got + ", due is " + due);
        }
    }

    static void same(String what, long due, long got) {
        same(what, Long.valueOf(due), Long.valueOf(got));
    }

    static void throwing(String what, Class<? extends RuntimeException> due, Call call) {
        String got;
        try {
            got = "answer " + call.run();
        } catch (RuntimeException e) {
            got = e.getClass().getName();
        }
        same(what, due.getName(), got);
    }

    /** Runs each test of a class: its methods without parameters and without an answer. */
    static void runEach(Class<?> tests) {
        for (Method test : tests.getDeclaredMethods()) {
            boolean isTest = test.getParameterCount() == 0 && test.getReturnType() == void.class;
            if (isTest && !test.isSynthetic()) {
                running = test.getName() + ": ";
                run(test);
            }
        }
        running = "";
    }

    private static void run(Method test) {
        try {
            test.setAccessible(true);
            test.invoke(null);
        } catch (InvocationTargetException e) {
            same("the test itself", "no exception", e.getCause());
        } catch (ReflectiveOperationException e) {
            same("the test itself", "a call of it", e);
        }
    }

    /** Prints what was wrong; exit code 1 if there was anything. */
    static void finish() {
        for (String line : WRONG) {
            System.out.println(line);
        }
        System.out.println(checked + " answers looked at, " + WRONG.size() + " wrong");
        if (!WRONG.isEmpty() || checked == 0) {
            System.exit(1);
        }
    }

    /** Puts a text behind THE TEXT: how many tokens that has then. */
    static int feed(IsaForge x, String text) {
        int size = x.count(6) + text.length();
        for (int i = 0; i < text.length(); i += 20) {
            x.feed(four(text, i), four(text, i + 4), four(text, i + 8), four(text, i + 12),
                four(text, i + 16));
        }
        return x.end(size);
    }

    private static int four(String text, int at) {
        int value = 0;
        for (int i = at; i < at + 4; i++) {
            value = value << 8 | (i < text.length() ? text.charAt(i) & 255 : 0);
        }
        return value;
    }

    /** A new object with a description. */
    static IsaForge machine(String description) {
        IsaForge x = new IsaForge();
        feed(x, description);
        x.describe();
        return x;
    }

    /** What describe says of a text: "ok" and its answer, or "fault", its kind and its place. */
    static String described(IsaForge x, String text) {
        feed(x, text);
        return outcome(x, x::describe);
    }

    static String described(String text) {
        return described(new IsaForge(), text);
    }

    /** What assemble says of a text. */
    static String assembled(IsaForge x, String text) {
        feed(x, text);
        return outcome(x, x::assemble);
    }

    private static String outcome(IsaForge x, Call call) {
        try {
            long answer = call.run();
            boolean clean = x.kind() == 0 && x.place() == -1;
            return clean ? "ok " + answer : "ok with kind " + x.kind() + " place " + x.place();
        } catch (UnsupportedOperationException e) {
            return "fault " + x.kind() + " at " + x.place();
        }
    }

    static String unmarked(String marked) {
        return marked.replace(String.valueOf(MARK), "");
    }

    /** "fault", its kind, and how many tokens stand before the mark. */
    static String faultAtMark(int kind, String marked, boolean lineEndsCount) {
        int place = 0;
        Matcher tokens = TOKEN.matcher(marked.substring(0, marked.indexOf(MARK)));
        while (tokens.find()) {
            boolean comment = tokens.group().startsWith("#");
            boolean lineEnd = tokens.group().equals("\n");
            place += comment || lineEnd && !lineEndsCount ? 0 : 1;
        }
        return "fault " + kind + " at " + place;
    }

    /** A refused call: what it throws, and that an object is afterwards as its twin without that call. */
    static void refused(String what, Class<? extends RuntimeException> due, Supplier<IsaForge> maker, Refused call) {
        IsaForge x = maker.get();
        IsaForge twin = maker.get();
        throwing(what, due, () -> call.run(x));
        same(what + " leaves all", state(twin), state(x));
        // THE TEXT cannot be read, but what it gives can.
        same(what + " leaves the tokens", twin.end(twin.count(6)), x.end(x.count(6)));
        if (twin.count(1) > 0) {
            same(what + " leaves the text", outcome(twin, twin::assemble), outcome(x, x::assemble));
            same(what + " leaves what is assembled", state(twin), state(x));
        } else {
            same(what + " leaves the text", outcome(twin, twin::describe), outcome(x, x::describe));
            same(what + " leaves what is described", state(twin), state(x));
        }
    }

    /** A call on an object that must throw. */
    interface Refused {
        long run(IsaForge x);
    }

    /** All that an object tells of itself, but for THE TEXT's bytes. */
    static String state(IsaForge x) {
        StringBuilder all = new StringBuilder();
        for (int what = 0; what <= 7; what++) {
            all.append(x.count(what)).append(' ');
        }
        all.append(x.kind()).append(' ').append(x.place()).append(' ').append(x.which()).append(' ');
        all.append(listing(x));
        for (int k = 0; k < x.count(0); k++) {
            for (int what = 0; what <= 3; what++) {
                all.append(' ').append(x.told(k, what));
            }
        }
        for (int address = 0; address < 4096; address++) {
            if (isLaid(x, address)) {
                all.append(' ').append(address).append('=').append(x.word(address));
            }
        }
        return all.toString();
    }

    static boolean isLaid(IsaForge x, int address) {
        try {
            return x.word(address) >= 0;
        } catch (NoSuchElementException e) {
            return false;
        }
    }

    /** The words from address 0 on, up to the first that is not laid down. */
    static String words(IsaForge x) {
        StringBuilder words = new StringBuilder();
        for (int i = 0; i < 4096; i++) {
            if (!isLaid(x, i)) {
                break;
            }
            words.append(i == 0 ? "" : " ").append(Long.toHexString(x.word(i)));
        }
        return words.toString();
    }

    /** THE LISTING as a text. */
    static String listing(IsaForge x) {
        StringBuilder text = new StringBuilder();
        for (int i = 0; i < x.count(7); i++) {
            text.append((char) (x.listing(i) >>> 56));
        }
        return text.toString();
    }

    /** Lists an address: which instruction it is of, how many words, and the text. */
    static String listed(IsaForge x, int address) {
        int words = x.list(address);
        return x.which() + "/" + words + " " + listing(x);
    }

    static String repeat(String part, int times) {
        return part.repeat(times);
    }
}
