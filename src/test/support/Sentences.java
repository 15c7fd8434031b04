import java.lang.annotation.Retention;
import java.lang.annotation.RetentionPolicy;
import java.lang.reflect.InvocationTargetException;
import java.lang.reflect.Method;
import java.util.Arrays;

/** What tests have in common that each hold one sentence of the document against the class. */
class Sentences {
    /** The words of the document that a test holds against the class, where need be with the case of them behind a colon. */
    @Retention(RetentionPolicy.RUNTIME)
    @interface Says {
        String value();
    }

    /** A call, so that what it throws can be looked at. */
    interface Call {
        long of();
    }

    static final int NONE = SpaceCycles.NONE;
    static final int LEAST = Integer.MIN_VALUE;
    static final int MOST = Integer.MAX_VALUE;
    /** Answers that no call can give: the exceptions. */
    static final long ARGUMENT = Long.MIN_VALUE;
    static final long STATE = Long.MIN_VALUE + 1;
    private static final long OTHER = Long.MIN_VALUE + 2;

    private static String sentence = "";
    private static int wrong = 0;

    static void runAll(Class<?> tests) {
        int ran = 0;
        for (Method test : tests.getDeclaredMethods()) {
            Says says = test.getAnnotation(Says.class);
            if (says == null) continue;
            sentence = test.getName() + " (" + says.value() + ")";
            runOne(test);
            ran++;
        }
        System.out.println(wrong == 0 ? ran + " sentences hold" : wrong + " answers are not as due");
        if (wrong != 0 || ran == 0) System.exit(1);
    }

    private static void runOne(Method test) {
        try {
            test.setAccessible(true);
            test.invoke(null);
        } catch (InvocationTargetException e) {
            tell("threw " + e.getCause());
        } catch (IllegalAccessException e) {
            tell("cannot be run: " + e);
        }
    }

    private static void tell(String what) {
        wrong++;
        System.out.println(sentence + ": " + what);
    }

    /** Each of the calls is to give this answer. */
    static void due(long want, Call... calls) {
        for (int k = 0; k < calls.length; k++) {
            long got = answerOf(calls[k]);
            if (got != want) {
                tell(place() + ", call " + k + " of it: answered " + written(got) + ", due is " + written(want));
            }
        }
    }

    /** The answers, in their order, are to be these. */
    static void row(long[] got, long... want) {
        if (!Arrays.equals(got, want)) {
            tell(place() + ": answered " + Arrays.toString(got) + ", due is " + Arrays.toString(want));
        }
    }

    static void same(String got, String want) {
        if (!got.equals(want)) tell(place() + ": it was\n" + want + "\nand is\n" + got);
    }

    static long[] of(long... answers) {
        return answers;
    }

    private static String place() {
        StackTraceElement at = new Throwable().getStackTrace()[2];
        return at.getFileName() + ":" + at.getLineNumber();
    }

    private static long answerOf(Call call) {
        try {
            return call.of();
        } catch (RuntimeException e) {
            // A class below these two would be one that the machine or the library throws.
            return e.getClass() == IllegalArgumentException.class ? ARGUMENT
                    : e.getClass() == IllegalStateException.class ? STATE : OTHER;
        }
    }

    private static String written(long answer) {
        return answer == ARGUMENT ? "illegal argument" : answer == STATE ? "illegal state"
                : answer == OTHER ? "another exception" : "" + answer;
    }

    static long moved(SpaceCycles s, int line, int dx, int dy) {
        return s.move(line, dx, dy) ? 1 : 0;
    }

    /** Four lines, from (x, y) wide and high: bottom, right, top, left. */
    static void box(SpaceCycles s, int x, int y, int wide, int high) {
        s.line(x, y, x + wide, y, 0);
        s.line(x + wide, y, x + wide, y + high, 0);
        s.line(x, y + high, x + wide, y + high, 0);
        s.line(x, y, x, y + high, 0);
    }

    /** A box of lines 0 .. 3 from (0, 0), 10 high, cut by standing lines 4, 5, .. at these x; a run. */
    static SpaceCycles rooms(int wide, int... cuts) {
        SpaceCycles s = new SpaceCycles();
        box(s, 0, 0, wide, 10);
        for (int x : cuts) s.line(x, 0, x, 10, 0);
        s.run();
        return s;
    }

    /** Lines of four numbers each; a run. */
    static SpaceCycles drawn(int[]... lines) {
        SpaceCycles s = new SpaceCycles();
        for (int[] l : lines) s.line(l[0], l[1], l[2], l[3], 0);
        s.run();
        return s;
    }

    static long[] counts(SpaceCycles s) {
        return of(s.count(0), s.count(1), s.count(2), s.count(3), s.count(4));
    }

    /** From where to where a side goes. */
    static long[] course(SpaceCycles s, int space, int ring, int k) {
        return of(s.side(space, ring, k, 1), s.side(space, ring, k, 2), s.side(space, ring, k, 3), s.side(space, ring, k, 4));
    }

    /** Line, x, y and reach of a loose end. */
    static long[] looseEnd(SpaceCycles s, int k) {
        return of(s.loose(k, 0), s.loose(k, 1), s.loose(k, 2), s.loose(k, 3));
    }

    /** The reach of the loose end at a point; -9 if none is there. */
    static long reachAt(SpaceCycles s, int x, int y) {
        for (int k = 0; k < s.count(3); k++) {
            if (s.loose(k, 1) == x && s.loose(k, 2) == y) return s.loose(k, 3);
        }
        return -9;
    }

    /** All that can be asked of the latest run, but for most of the points that could be looked at. */
    static String picture(SpaceCycles s) {
        StringBuilder out = new StringBuilder(Arrays.toString(counts(s)));
        for (int k = 0; k < s.count(3); k++) out.append(" loose ").append(Arrays.toString(looseEnd(s, k)));
        for (int a = 0; a < s.count(0); a++) {
            out.append(" space ").append(s.nameOf(a)).append(' ').append(s.size(a, 0)).append(' ').append(s.size(a, 2));
            for (int ring = 0; ring < s.rings(a); ring++) {
                for (int k = 0; k < s.sides(a, ring); k++) {
                    out.append(' ').append(Arrays.toString(course(s, a, ring, k))).append(s.side(a, ring, k, 5));
                }
            }
            for (int b = NONE; b < s.count(0); b++) {
                out.append(" to ").append(s.between(a, b)).append(' ').append(s.way(a, b));
                if (b >= 0) out.append(' ').append(s.overlap(b, a));
            }
        }
        return out.toString();
    }
}
