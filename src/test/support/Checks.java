import java.lang.reflect.InvocationTargetException;
import java.lang.reflect.Method;
import java.util.TreeMap;

/** What the hand-made tests have in common: answers that are due, forms by their text, and a runner of tests by name. */
abstract class Checks {
    static final int NONE = CastWorks.NONE;
    static final int LEAST = Integer.MIN_VALUE;
    static final int MOST = Integer.MAX_VALUE;
    /** Beyond every number of a cell, piece, order, cast or kind, and like one within when bits are lost. */
    static final int[] FAR_OFF = {LEAST, LEAST + 1, -65536, -256, -32, 32, 64, 256, 65536, 1 << 30, MOST - 1, MOST};
    /** Beyond the longer ranges too. */
    static final int[] FARTHEST = {LEAST, LEAST + 1, -65536, 1 << 30, MOST - 1, MOST};

    static final String CUBE = "box 0 0 0 1 1 1;";
    static final String SHUT_IN = "box 0 0 0 3 3 3;hole 1 1 1 1 1 1;";

    private static String test = "";
    private static int checks = 0;
    private static int wrong = 0;

    /**
     * Runs every method whose name is "promise", two digits and more, and asks that each promise has one at least;
     * with an argument only those whose names begin with it.
     */
    static void runTests(Class<?> owner, String[] args, int firstPromise, int lastPromise) {
        String wanted = args.length > 0 ? args[0] : "";
        TreeMap<String, Method> tests = new TreeMap<>();
        for (Method method : owner.getDeclaredMethods()) {
            if (method.getName().matches("promise\\d\\d.+") && method.getName().startsWith(wanted)) {
                tests.put(method.getName(), method);
            }
        }
        for (Method method : tests.values()) {
            run(method);
        }
        begin(owner.getSimpleName());
        due("whether there are tests named " + wanted, tests.isEmpty(), false);
        for (int promise = firstPromise; promise <= lastPromise && wanted.isEmpty(); promise++) {
            String name = String.format("promise%02d", promise);
            begin(name);
            String first = tests.ceilingKey(name);
            due("whether it has a test", first != null && first.startsWith(name), true);
        }
        finish(tests.size() + " tests");
    }

    private static void run(Method method) {
        begin(method.getName());
        try {
            method.invoke(null);
        } catch (InvocationTargetException thrown) {
            wrong++;
            System.out.println(test + ": " + thrown.getCause());
        } catch (IllegalAccessException thrown) {
            wrong++;
            System.out.println(test + ": " + thrown);
        }
    }

    static void begin(String name) {
        test = name;
    }

    static void finish(String what) {
        System.out.println(what + ", " + checks + " answers, " + wrong + " of them wrong");
        if (wrong != 0) {
            System.exit(1);
        }
    }

    static void due(String call, long got, long want) {
        checks++;
        if (got != want) {
            wrong++;
            System.out.println(test + ": " + call + " answered " + got + ", due is " + want);
        }
    }

    static void due(String call, boolean got, boolean want) {
        due(call, got ? 1 : 0, want ? 1 : 0);
    }

    static int four(String text, int from) {
        int number = 0;
        for (int i = from; i < from + 4; i++) {
            number = number << 8 | (i < text.length() ? text.charAt(i) : ' ') & 255;
        }
        return number;
    }

    static int feed(CastWorks x, String text, int from) {
        return x.feed(four(text, from), four(text, from + 4), four(text, from + 8), four(text, from + 12),
                four(text, from + 16));
    }

    /** Lays a text on an empty tape. */
    static void lay(CastWorks x, String text) {
        x.end(0);
        for (int i = 0; i < text.length(); i += 20) {
            feed(x, text, i);
        }
        x.end(text.length());
    }

    static int make(CastWorks x, String text, int wide, int high, int deep) {
        lay(x, text);
        return x.form(wide, high, deep);
    }

    static CastWorks formed(String text, int wide, int high, int deep) {
        CastWorks x = new CastWorks();
        make(x, text, wide, high, deep);
        return x;
    }

    static CastWorks drawn(String text, int wide, int high, int deep) {
        CastWorks x = formed(text, wide, high, deep);
        x.draw();
        return x;
    }

    /** A statement on a block of some length along one axis, and of 1 along the others. */
    static String block(String word, int axis, int from, int length) {
        StringBuilder text = new StringBuilder(word);
        for (int a = 0; a < 3; a++) {
            text.append(' ').append(a == axis ? from : 0);
        }
        for (int a = 0; a < 3; a++) {
            text.append(' ').append(a == axis ? length : 1);
        }
        return text.append(';').toString();
    }

    /** A form in a box of 8 along one axis, and of 1 along the others. */
    static int lineForm(CastWorks x, String text, int axis) {
        return make(x, text, axis == 0 ? 8 : 1, axis == 1 ? 8 : 1, axis == 2 ? 8 : 1);
    }

    static void soundDue(String text, int wide, int high, int deep, int solid) {
        CastWorks x = new CastWorks();
        due("form of '" + text + "'", make(x, text, wide, high, deep), solid);
        due("fault(0) of '" + text + "'", x.fault(0), 0);
        due("fault(1) of '" + text + "'", x.fault(1), NONE);
    }

    static void faultDue(String text, int wide, int high, int kind, int place) {
        CastWorks x = new CastWorks();
        due("form of '" + text + "'", make(x, text, wide, high, 2), NONE);
        due("fault(0) of '" + text + "'", x.fault(0), kind);
        due("fault(1) of '" + text + "'", x.fault(1), place);
    }

    static String blanks(int count) {
        return " ".repeat(count);
    }
}
