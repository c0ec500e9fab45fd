import java.lang.reflect.InvocationTargetException;
import java.lang.reflect.Method;
import java.lang.reflect.Modifier;
import java.util.Arrays;
import java.util.Comparator;
import java.util.NoSuchElementException;

/** What the tests of the document's sentences share; it is no test itself. */
final class Edges {
    static final int NONE = -1;
    static final int MOST = Integer.MAX_VALUE;
    static final int LEAST = Integer.MIN_VALUE;
    static final int DOWN = 0;
    static final int UP = 1;
    static final int DRAINING = 2;
    static final int[] NO_GATES = {LEAST, -2, -1, 4, 5, MOST};

    private static int wrong = 0;
    private static String sentence = "";

    private Edges() {
    }

    /** Each method that neither takes nor answers anything is a test, found by itself so that none is left out. */
    static void runAll(Class<?> tests) {
        Method[] methods = tests.getDeclaredMethods();
        Arrays.sort(methods, Comparator.comparing(Method::getName));
        int sentences = 0;
        for (Method method : methods) {
            if (isTest(method)) {
                sentence = "";
                run(method);
                sentences++;
                due(method.getName() + " names its sentence", !sentence.isEmpty(), true);
            }
        }
        System.out.println(sentences + " sentences, " + wrong + " answers that are not as due");
        if (wrong != 0 || sentences == 0) {
            System.exit(1);
        }
    }

    private static boolean isTest(Method method) {
        return Modifier.isStatic(method.getModifiers()) && !method.isSynthetic()
            && method.getParameterCount() == 0 && method.getReturnType() == void.class;
    }

    private static void run(Method method) {
        try {
            method.setAccessible(true);
            method.invoke(null);
        } catch (InvocationTargetException thrown) {
            wrong++;
            System.out.println(sentence + ": " + method.getName() + " threw " + thrown.getCause());
        } catch (IllegalAccessException closed) {
            throw new IllegalStateException(closed);
        }
    }

    static void says(String words) {
        sentence = words;
    }

    static void due(String call, long got, long want) {
        if (got != want) {
            wrong++;
            System.out.println(sentence + ": " + call + " answered " + got + ", due is " + want);
        }
    }

    static void due(String call, boolean got, boolean want) {
        due(call, got ? 1 : 0, want ? 1 : 0);
    }

    static void same(String what, String got, String want) {
        if (!got.equals(want)) {
            wrong++;
            System.out.println(sentence + ": " + what + " is\n  " + got + "\nand was\n  " + want);
        }
    }

    static void dueTable(FlowGates x, int gate, int... owners) {
        due("count 0", x.count(0), owners.length);
        for (int s = 0; s < owners.length; s++) {
            due("table " + gate + " " + s, x.table(gate, s), owners[s]);
        }
    }

    static void dueFlows(FlowGates x, int gate, int... flows) {
        due("flows " + gate, x.flows(gate, NONE), flows.length);
        for (int k = 0; k < flows.length; k++) {
            due("flowAt " + gate + " " + k, x.flowAt(gate, k), flows[k]);
        }
    }

    static void noSuch(FlowGates x, int backend, int what) {
        long got;
        try {
            got = x.of(backend, what);
        } catch (NoSuchElementException due) {
            return;
        }
        wrong++;
        System.out.println(sentence + ": of " + backend + " " + what + " answered " + got + ", due is an exception");
    }

    /** Puts a text behind the tape, which is then cut to end where the text does. */
    static void write(FlowGates x, String text) {
        int had = x.count(5);
        for (int i = 0; i < text.length(); i += 20) {
            int[] five = new int[5];
            for (int j = 0; j < 20; j++) {
                int sign = i + j < text.length() ? text.charAt(i + j) : ';';
                five[j / 4] |= sign << 24 - j % 4 * 8;
            }
            x.feed(five[0], five[1], five[2], five[3], five[4]);
        }
        due("end", x.end(had + text.length()), true);
    }

    static void told(FlowGates x, String text, int statements) {
        write(x, text);
        due("tell of '" + text + "'", x.tell(), statements);
        due("fault of '" + text + "'", x.fault(), 0);
    }

    static void faulty(FlowGates x, String text, int kind, int place) {
        write(x, text);
        due("tell of '" + text + "'", x.tell(), NONE);
        due("fault of '" + text + "'", x.fault(), kind + 8 * place);
    }

    /** Keys whose rows at size 7 are 0 1 2 3 4 5 6 both, so that tables can be told by hand. */
    static FlowGates twins(int weight, int otherWeight) {
        FlowGates x = new FlowGates();
        x.back(0, weight);
        x.back(49, otherWeight);
        return x;
    }

    /** Something of all that can be seen: states, flows, kept tables, ticks gone by. */
    static FlowGates furnished() {
        FlowGates x = twins(3, 2);
        x.see(1, 1, DRAINING);
        x.see(2, 0, DOWN);
        x.tick(5);
        x.pack(0, 0);
        x.pack(0, 17);
        x.pack(2, 9999);
        x.keep(0);
        x.keep(1);
        return x;
    }

    /** All that can be seen of a small object, by some two hundred calls. */
    static String seen(FlowGates x) {
        StringBuilder all = new StringBuilder("counts");
        for (int what = 0; what < 5; what++) {
            all.append(' ').append(x.count(what));
        }
        for (int b = 0; b < x.count(1); b++) {
            all.append(" backend ").append(x.of(b, 0)).append(' ').append(x.of(b, 1));
            for (int g = 0; g < 4; g++) {
                all.append(' ').append(x.of(b, 10 + g));
            }
        }
        int size = x.count(0);
        for (int g = 0; g < 4; g++) {
            all.append(" gate ").append(x.changed(g, 0));
            for (int s = 0; s < size && x.changed(g, 0) != NONE; s++) {
                all.append(' ').append(x.changed(g, 10 + s));
            }
            for (int k = 0; k < x.flows(g, NONE); k++) {
                int flow = x.flowAt(g, k);
                all.append(" flow ").append(flow).append(' ').append(x.remembers(g, flow, 0));
                all.append(' ').append(x.remembers(g, flow, 1));
            }
        }
        return all.toString();
    }
}
