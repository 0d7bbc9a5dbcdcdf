/** Whatever is called with whatever numbers: nothing is thrown but what out() promises, and refused calls change nothing. */
final class AnyCallsTest extends Checks {
    private static final int[] ODD = {Integer.MIN_VALUE, Integer.MIN_VALUE + 1, -201, -101, -8, -3, -2, -1, 31, 32, 64, 99, 106, 107,
        108, 199, 200, 229, 230, 231, 1024, Integer.MAX_VALUE - 1, Integer.MAX_VALUE};
    private static long seed = 512L;

    private static int pick(int below) {
        seed = seed * 6364136223846793005L + 1442695040888963407L;
        return (int) ((seed >>> 33) % below);
    }

    private static int number(int usual) {
        return pick(6) == 0 ? ODD[pick(ODD.length)] : pick(usual);
    }

    private static int kind() {
        int[] kinds = {0, 1, 2, 3, 4, 100 + pick(8), 100 + pick(8), 200 + pick(30), ODD[pick(ODD.length)]};
        return kinds[pick(kinds.length)];
    }

    private static int call(FrameWriter x, int which) {
        switch (which) {
            case 0: return x.type(number(8), pick(3) == 0);
            case 1: return x.local(number(8), kind());
            case 2: return x.handler(number(31), number(31), number(30), number(8));
            case 3: return x.plant(number(4), number(14), kind());
            case 4: return x.op(number(21), number(30));
            case 5: return x.op(pick(21), pick(8));
            case 6: return x.make();
            case 7: return x.judge();
            case 8: return x.joined(kind(), kind());
            case 9: return x.goes(kind(), kind());
            case 10: return x.told(number(6));
            case 11: return x.state(number(30), number(14));
            case 12: return x.frame(number(30));
            case 13: return x.fault();
            default: return x.packed();
        }
    }

    private static boolean outIsRight(FrameWriter x, int i) {
        boolean there = i >= 0 && i < x.packed();
        try {
            int value = x.out(i);
            return there && value >= 0 && value <= 255;
        } catch (ArrayIndexOutOfBoundsException e) {
            return !there;
        }
    }

    /** Half of the objects begin with a program that has STATES and FRAMES. */
    private static FrameWriter begun() {
        if (pick(2) == 0) {
            return new FrameWriter();
        }
        FrameWriter x = withLocals(0, 1, 1, 102, 6, 2);
        extend(x, INT, 0, IF, 0, LOAD, 1, THROW, 0, STORE, 2, END, 0);
        x.handler(2, 4, 4, 3);
        due("make()", x.make(), 2);
        return x;
    }

    /** All is asked around a few calls alone, as it takes some hundred calls and an object is used for 512. */
    private static void run() {
        FrameWriter x = begun();
        for (int used = 0; used < 240; used += 3) {
            boolean asked = pick(40) == 0;
            String before = asked ? all(x) : "";
            int which = pick(15);
            int answer = call(x, which);
            boolean mayChange = which < 7 && answer != BAD && answer != FULL;
            if (asked) {
                String behind = all(x);
                used += 200;
                if (!mayChange && !behind.equals(before)) {
                    fail("call " + which + " answered " + answer + " and changed " + before + " to " + behind);
                }
            }
            if (!outIsRight(x, number(40))) {
                fail("out() is not as due");
            }
        }
    }

    public static void main(String[] args) {
        for (int run = 0; run < 12000; run++) {
            run();
        }
        end("any calls");
    }
}
