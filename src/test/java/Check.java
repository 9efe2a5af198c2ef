import java.lang.reflect.Method;
import java.util.Arrays;
import java.util.Comparator;
import java.util.List;
import java.util.NoSuchElementException;
import java.util.function.Consumer;
import java.util.function.Supplier;

/** What the tests share: answers that are due, calls that are refused, texts on the TAPE. */
class Check {
    static final int NONE = MemoryHouse.NONE;
    static final Class<?> OUT = IndexOutOfBoundsException.class;
    static final Class<?> STATE = IllegalStateException.class;
    static final Class<?> ARG = IllegalArgumentException.class;
    static final Class<?> UNSUP = UnsupportedOperationException.class;
    static final Class<?> NOSUCH = NoSuchElementException.class;
    private static int wrong = 0;
    private static int asked = 0;
    /** The test at hand, where tests are told by their names. */
    private static String test = "";
    private static int askedBefore = 0;

    interface Call {
        void make();
    }

    static void wrong(String what) {
        wrong++;
        System.out.println((test.isEmpty() ? "" : test + ", answer " + (asked - askedBefore) + ": ") + what);
    }

    static void due(String what, long got, long want) {
        asked++;
        if (got != want) {
            wrong(what + ": answered " + got + ", due is " + want);
        }
    }

    static void due(String what, boolean got, boolean want) {
        due(what, got ? 1 : 0, want ? 1 : 0);
    }

    static void refused(String what, Class<?> by, Call call) {
        asked++;
        try {
            call.make();
            wrong(what + ": throws nothing, due is " + by.getSimpleName());
        } catch (RuntimeException e) {
            if (e.getClass() != by) {
                wrong(what + ": throws " + e + ", due is " + by.getSimpleName());
            }
        }
    }

    /** The call throws so, and leaves all that can be seen of the object as it was. */
    static void refused(Supplier<MemoryHouse> from, Class<?> by, Consumer<MemoryHouse> call) {
        MemoryHouse x = from.get();
        refused("the call", by, () -> call.accept(x));
        same("the refused call", Whole.of(from, true), Whole.of(() -> after(from, call), true));
    }

    /** The call answers so, and leaves all that can be seen of the object as it was. */
    static void leaves(Supplier<MemoryHouse> from, Consumer<MemoryHouse> call) {
        same("the call", Whole.of(from, true), Whole.of(() -> after(from, call), true));
    }

    static void same(String what, List<String> before, List<String> behind) {
        asked++;
        for (int k = 0; k < Math.max(before.size(), behind.size()); k++) {
            String one = k < before.size() ? before.get(k) : "nothing";
            String other = k < behind.size() ? behind.get(k) : "nothing";
            if (!one.equals(other)) {
                wrong(what + " made \"" + other + "\" of \"" + one + "\"");
                return;
            }
        }
    }

    static MemoryHouse after(Supplier<MemoryHouse> from, Consumer<MemoryHouse> call) {
        MemoryHouse x = from.get();
        try {
            call.accept(x);
        } catch (RuntimeException e) {
            return x;
        }
        return x;
    }

    static void feed(MemoryHouse x, String text) {
        for (int at = 0; at < text.length(); at += 20) {
            int[] n = new int[5];
            for (int k = 0; k < 20; k++) {
                int sign = at + k < text.length() ? text.charAt(at + k) & 255 : 0;
                n[k / 4] |= sign << (24 - 8 * (k % 4));
            }
            x.feed(n[0], n[1], n[2], n[3], n[4]);
        }
    }

    static void write(MemoryHouse x, String text) {
        x.end(0);
        feed(x, text);
        x.end(text.length());
    }

    static int law(MemoryHouse x, String text) {
        write(x, text);
        return x.law();
    }

    static int rule(MemoryHouse x, String text) {
        write(x, text);
        return x.rule();
    }

    /** A law of the text is read by a new object: where it is wrong (NONE: nowhere). */
    static void lawFault(String text, int want) {
        MemoryHouse x = new MemoryHouse();
        write(x, text);
        if (want == NONE) {
            due("law \"" + text + "\"", x.law(), 0);
        } else {
            refused("law \"" + text + "\"", ARG, x::law);
            due("no law \"" + text + "\"", x.count(5), 0);
        }
        due("fault of \"" + text + "\"", x.fault(), want);
    }

    static void ruleFault(String text, int want) {
        MemoryHouse x = new MemoryHouse();
        write(x, text);
        if (want == NONE) {
            due("rule \"" + text + "\"", x.rule(), 0);
        } else {
            refused("rule \"" + text + "\"", ARG, x::rule);
            due("no rule \"" + text + "\"", x.count(6), 0);
        }
        due("fault of \"" + text + "\"", x.fault(), want);
    }

    /** Runs every test that is named after a promise; each promise from one to another must have one. */
    static void runByName(Class<?> tests, int from, int to) {
        Method[] methods = tests.getDeclaredMethods();
        Arrays.sort(methods, Comparator.comparing(Method::getName));
        boolean[] has = new boolean[100];
        int run = 0;
        for (Method m : methods) {
            if (m.getName().matches("promise\\d\\d_\\w+")) {
                has[Integer.parseInt(m.getName().substring(7, 9))] = true;
                runOne(m);
                run++;
            }
        }
        test = "";
        for (int promise = from; promise <= to; promise++) {
            due("promise " + promise + " has a test", has[promise], true);
        }
        System.out.print(run + " tests, ");
    }

    private static void runOne(Method m) {
        test = m.getName();
        askedBefore = asked;
        try {
            m.setAccessible(true);
            m.invoke(null);
        } catch (ReflectiveOperationException e) {
            wrong("broke off by " + (e.getCause() == null ? e : e.getCause()));
        }
        if (asked == askedBefore) {
            wrong("asks nothing");
        }
    }

    static void finish() {
        System.out.println(asked + " answers, " + wrong + " of them wrong");
        if (wrong != 0) {
            System.exit(1);
        }
    }
}
