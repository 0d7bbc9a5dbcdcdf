import java.lang.annotation.ElementType;
import java.lang.annotation.Retention;
import java.lang.annotation.RetentionPolicy;
import java.lang.annotation.Target;
import java.lang.reflect.InvocationTargetException;
import java.lang.reflect.Method;
import java.lang.reflect.Modifier;
import java.util.Arrays;
import java.util.Comparator;

/** What the tests share: the OPS by name, programs, and answers that are due. */
abstract class Checks {
    static final int NONE = FrameWriter.NONE, BAD = FrameWriter.BAD, FULL = FrameWriter.FULL;
    static final int LEAST = Integer.MIN_VALUE, MOST = Integer.MAX_VALUE;

    /** OPS. */
    static final int INT = 0, LONG = 1, NULL = 2, LOAD = 3, LOAD2 = 4, STORE = 5, STORE2 = 6, POP = 7, POP2 = 8, DUP = 9;
    static final int ADD = 10, ADD2 = 11, BEGIN = 12, MAKE = 13, CAST = 14, USE = 15, IF = 16, SAME = 17, GO = 18, END = 19;
    static final int THROW = 20;

    private static int wrong = 0;

    /** The promise that a test holds, and the document's words that would be broken if it failed. */
    @Retention(RetentionPolicy.RUNTIME)
    @Target(ElementType.METHOD)
    @interface Sentence {
        String of();

        String says();
    }

    static void due(String what, int got, int want) {
        if (got != want) {
            fail(what + " answered " + got + ", due is " + want);
        }
    }

    static void fail(String text) {
        wrong++;
        System.out.println(text);
    }

    static void dueBytes(String what, FrameWriter x, int... want) {
        int[] got = new int[Math.max(0, x.packed())];
        for (int i = 0; i < got.length; i++) {
            got[i] = x.out(i);
        }
        if (!Arrays.equals(got, want)) {
            fail(what + " wrote " + Arrays.toString(got) + ", due is " + Arrays.toString(want));
        }
    }

    /** The 14 places of a STATE: LOCALS that are not told here are TOP, THE PILE is as high as it is told. */
    static void dueState(String what, FrameWriter x, int at, int... want) {
        int[] got = new int[14];
        for (int place = 0; place < 14; place++) {
            got[place] = x.state(at, place);
        }
        int[] whole = new int[14];
        Arrays.fill(whole, 8, 14, NONE);
        System.arraycopy(want, 0, whole, 0, want.length);
        if (!Arrays.equals(got, whole)) {
            fail(what + ": STATE " + Arrays.toString(got) + ", due is " + Arrays.toString(whole));
        }
    }

    /** A STATE whose LOCALS are all TOP. */
    static void duePile(String what, FrameWriter x, int at, int... pile) {
        int[] places = new int[8 + pile.length];
        System.arraycopy(pile, 0, places, 8, pile.length);
        dueState(what, x, at, places);
    }

    static void dueThrow(String what, FrameWriter x, int i) {
        try {
            x.out(i);
        } catch (ArrayIndexOutOfBoundsException e) {
            return;
        }
        fail(what + ": out(" + i + ") threw nothing");
    }

    static void dueFrames(String what, FrameWriter x, int... want) {
        due(what + ": make()", x.make(), want.length);
        due(what + ": told(3)", x.told(3), want.length);
        for (int k = 0; k < want.length; k++) {
            due(what + ": frame(" + k + ")", x.frame(k), want[k]);
        }
        due(what + ": frame(" + want.length + ")", x.frame(want.length), NONE);
    }

    static void dueFault(String what, FrameWriter x, int fault, int place) {
        due(what + ": make()", x.make(), -10 - place);
        due(what + ": fault()", x.fault(), fault);
        dueNothingMade(what, x);
    }

    static void dueFine(String what, FrameWriter x, int frames) {
        due(what + ": make()", x.make(), frames);
        due(what + ": fault()", x.fault(), 0);
        due(what + ": judge()", x.judge(), NONE);
    }

    static void dueNothingMade(String what, FrameWriter x) {
        due(what + ": told(3)", x.told(3), 0);
        due(what + ": told(4)", x.told(4), 0);
        due(what + ": packed()", x.packed(), NONE);
        due(what + ": state(0, 0)", x.state(0, 0), NONE);
        due(what + ": frame(0)", x.frame(0), NONE);
        due(what + ": plant(0, 7, 0)", x.plant(0, 7, 0), BAD);
        due(what + ": judge()", x.judge(), BAD);
        dueThrow(what, x, 0);
    }

    /** Pairs of OP and a. */
    static FrameWriter program(int... pairs) {
        return extend(new FrameWriter(), pairs);
    }

    static FrameWriter extend(FrameWriter x, int... pairs) {
        int before = x.told(1);
        for (int i = 0; i + 1 < pairs.length; i += 2) {
            due("op(" + pairs[i] + ", " + pairs[i + 1] + ")", x.op(pairs[i], pairs[i + 1]), before + i / 2);
        }
        return x;
    }

    /** TYPES: 1 of 0, 2 and 3 of 1, 4 a FACE, 5 of 3. */
    static FrameWriter withTypes() {
        FrameWriter x = new FrameWriter();
        x.type(0, false);
        x.type(1, false);
        x.type(1, false);
        x.type(0, true);
        due("the last TYPE", x.type(3, false), 5);
        return x;
    }

    /** Pairs of a LOCAL and its KIND, in an object that has the TYPES above. */
    static FrameWriter withLocals(int... pairs) {
        FrameWriter x = withTypes();
        for (int i = 0; i + 1 < pairs.length; i += 2) {
            due("local(" + pairs[i] + ", " + pairs[i + 1] + ")", x.local(pairs[i], pairs[i + 1]), 1);
        }
        return x;
    }

    /** Everything that can be asked without changing it, in few calls: an object is used for 512 of them. */
    static String all(FrameWriter x) {
        StringBuilder text = new StringBuilder();
        for (int what = 0; what < 5; what++) {
            text.append(x.told(what)).append(' ');
        }
        text.append(x.fault()).append(' ').append(x.packed()).append(' ').append(x.judge()).append(" bytes");
        int bytes = x.packed();
        for (int i = 0; i < bytes; i++) {
            text.append(' ').append(x.out(i));
        }
        int frames = x.told(3);
        for (int k = 0; k <= frames; k++) {
            text.append(" frame ").append(x.frame(k));
        }
        int instructions = bytes == NONE ? 0 : x.told(1);
        for (int at = 0; at < instructions; at++) {
            text.append(" state");
            boolean there = true;
            for (int place = 0; place < 14 && there; place++) {
                int kind = x.state(at, place);
                there = kind != NONE;
                text.append(' ').append(kind);
            }
        }
        return text.toString();
    }

    /** Runs each test of a class that bears a sentence, and ends with exit code 1 if one failed. */
    static void runSentences(Class<?> tests) {
        Method[] methods = tests.getDeclaredMethods();
        Arrays.sort(methods, Comparator.comparing(Method::getName));
        int ran = 0;
        for (Method method : methods) {
            Sentence sentence = method.getAnnotation(Sentence.class);
            if (sentence != null && Modifier.isStatic(method.getModifiers())) {
                ran++;
                int before = wrong;
                run(method);
                if (wrong != before) {
                    System.out.println("BROKEN " + method.getName() + " (" + sentence.of() + "): " + sentence.says());
                }
            }
        }
        end(ran + " sentences");
    }

    private static void run(Method method) {
        try {
            method.invoke(null);
        } catch (InvocationTargetException e) {
            fail(method.getName() + " was ended by " + e.getCause());
        } catch (IllegalAccessException e) {
            fail(method.getName() + " can't be called");
        }
    }

    static void end(String what) {
        System.out.println(what + ": " + (wrong == 0 ? "all answers are as due" : wrong + " answers are not as due"));
        if (wrong != 0) {
            System.exit(1);
        }
    }
}
