/** What is told: Promises 3, 4 and 5, what refuses a call, and what ends STATES and FRAMES, sentence by sentence. */
final class TellingSentencesTest extends Checks {

    /** The LOCALS of the beginning, which are those of the STATE of 0. */
    private static void dueLocals(String what, FrameWriter x, int... want) {
        due(what + ": make()", x.make(), 0);
        dueState(what, x, 0, want);
    }

    private static FrameWriter withAnEnd(int... locals) {
        return extend(withLocals(locals), END, 0);
    }

    // ---- Promise 3: local

    @Sentence(of = "Promise 3, part 3", says = "with what was told in LOCALS (TOP at first)")
    static void localsAreTopAtFirst() {
        dueLocals("nothing told", withAnEnd());
        dueLocals("one told", withAnEnd(3, 1), 0, 0, 0, 1);
    }

    @Sentence(of = "Promise 3, part 2", says = "LOCALS are eight places, 0 .. 7")
    static void localsGoFromZeroToSeven() {
        FrameWriter x = withAnEnd(0, 4);
        int[] bad = {-1, 8, 9, 13, LEAST, MOST, LEAST + 8, -8};
        for (int place : bad) {
            due("local(" + place + ", 0)", x.local(place, 0), BAD);
            due("local(" + place + ", 1)", x.local(place, 1), BAD);
            due("local(" + place + ", 100)", x.local(place, 100), BAD);
        }
        dueLocals("none of these", x, 4);
        due("local(0, 1)", x.local(0, 1), 1);
        due("local(7, 1)", x.local(7, 1), 1);
        dueLocals("the outermost", x, 1, 0, 0, 0, 0, 0, 0, 1);
    }

    @Sentence(of = "Promise 3", says = "KIND 0, 1, 4, 100 + t, or 2")
    static void kindsThatALocalMayBeOf() {
        FrameWriter x = withAnEnd();
        int[] good = {1, 4, 100, 101, 102, 103, 104, 105, 0};
        for (int kind : good) {
            due("local(0, " + kind + ")", x.local(0, kind), 1);
            dueLocals("KIND " + kind, x, kind);
        }
        due("local(0, 2)", x.local(0, 2), 1);
        dueLocals("KIND 2", x, 2, 3);
    }

    @Sentence(of = "Promise 3", says = "KIND 0, 1, 4, 100 + t, or 2")
    static void kindsThatALocalMayNotBeOf() {
        FrameWriter x = withAnEnd(0, 1, 7, 4);
        int[] bad = {-1, 3, 5, 99, 106, 107, 108, 199, 200, 229, 230, LEAST, MOST, LEAST + 100};
        for (int kind : bad) {
            due("local(0, " + kind + ")", x.local(0, kind), BAD);
            due("local(7, " + kind + ")", x.local(7, kind), BAD);
        }
        dueLocals("none of these", x, 1, 0, 0, 0, 0, 0, 0, 4);
    }

    @Sentence(of = "Promise 3", says = "or 2 (the next one HALF then")
    static void theOneBehindALongIsItsHalf() {
        dueLocals("at the first", withAnEnd(0, 2), 2, 3);
        dueLocals("at the last that has a next one", withAnEnd(6, 2), 0, 0, 0, 0, 0, 0, 2, 3);
        dueLocals("over what lay there", withAnEnd(2, 105, 3, 1, 2, 2), 0, 0, 2, 3);
    }

    @Sentence(of = "Promise 3", says = "BAD: also 2 in LOCAL 7.")
    static void noLongInTheLastLocal() {
        FrameWriter x = withAnEnd(6, 2);
        due("local(7, 2)", x.local(7, 2), BAD);
        dueLocals("as it was", x, 0, 0, 0, 0, 0, 0, 2, 3);
        due("local(6, 2)", x.local(6, 2), 1);
        int[] bad = {-1, 8, -2, LEAST, MOST};
        for (int place : bad) {
            due("local(" + place + ", 2)", x.local(place, 2), BAD);
        }
        dueLocals("as it was still", x, 0, 0, 0, 0, 0, 0, 2, 3);
    }

    @Sentence(of = "Promise 3", says = "what it lies over of other LONGS becomes TOP")
    static void aLongOverTheFirstPlaceOfAnother() {
        dueLocals("its HALF is TOP", withAnEnd(3, 2, 2, 2), 0, 0, 2, 3, 0);
        dueLocals("at the end", withAnEnd(6, 2, 5, 2), 0, 0, 0, 0, 0, 2, 3, 0);
    }

    @Sentence(of = "Promise 3", says = "what it lies over of other LONGS becomes TOP")
    static void aLongOverTheSecondPlaceOfAnother() {
        dueLocals("its first is TOP", withAnEnd(3, 2, 4, 2), 0, 0, 0, 0, 2, 3);
        dueLocals("at the beginning", withAnEnd(0, 2, 1, 2), 0, 2, 3);
    }

    @Sentence(of = "Promise 3", says = "what it lies over of other LONGS becomes TOP")
    static void aLongOverTwoOthers() {
        dueLocals("both are broken", withAnEnd(2, 2, 4, 2, 3, 2), 0, 0, 0, 2, 3, 0);
        dueLocals("those beside stay", withAnEnd(0, 2, 2, 2, 4, 2, 6, 2, 3, 2), 2, 3, 0, 2, 3, 0, 2, 3);
    }

    @Sentence(of = "Promise 3", says = "what it lies over of other LONGS becomes TOP")
    static void aLongOverItselfIsThatLong() {
        dueLocals("twice told", withAnEnd(3, 2, 3, 2), 0, 0, 0, 2, 3);
    }

    @Sentence(of = "Promise 3", says = "what it lies over of other LONGS becomes TOP")
    static void anotherKindOverOnePlaceOfALong() {
        int[] kinds = {0, 1, 4, 105};
        for (int kind : kinds) {
            dueLocals(kind + " over the first", withAnEnd(3, 2, 3, kind), 0, 0, 0, kind, 0);
            dueLocals(kind + " over the second", withAnEnd(3, 2, 4, kind), 0, 0, 0, 0, kind);
        }
        dueLocals("over the last HALF", withAnEnd(6, 2, 7, 1), 0, 0, 0, 0, 0, 0, 0, 1);
    }

    @Sentence(of = "Promise 3", says = "What is in a LOCAL at the beginning")
    static void whatIsToldLastIsThere() {
        dueLocals("told again", withAnEnd(5, 1, 5, 4, 5, 103), 0, 0, 0, 0, 0, 103);
        dueLocals("TOP again", withAnEnd(5, 1, 5, 0));
    }

    // ---- Promise 4: op

    @Sentence(of = "Promise 4, part 2", says = "INSTRUCTIONS 0, 1, .. (30 at most) lie one behind the other")
    static void thirtyInstructionsAreTheMost() {
        FrameWriter x = new FrameWriter();
        for (int at = 0; at < 30; at++) {
            due("op " + at, x.op(GO, at), at);
        }
        due("INSTRUCTIONS", x.told(1), 30);
        due("one more", x.op(END, 0), FULL);
        due("and one more", x.op(GO, 29), FULL);
        due("INSTRUCTIONS still", x.told(1), 30);
    }

    @Sentence(of = "Promise 4, of all", says = "Refused calls change nothing.")
    static void oneInstructionTooManyChangesNothing() {
        FrameWriter x = new FrameWriter();
        for (int at = 0; at < 29; at++) {
            x.op(GO, at + 1);
        }
        x.op(END, 0);
        due("make()", x.make(), 29);
        due("one more", x.op(POP, 0), FULL);
        due("FRAMES are there still", x.told(3), 29);
        due("STATES are there still", x.told(4), 30);
        due("and the same is made again", x.make(), 29);
    }

    @Sentence(of = "Promise 4", says = "BAD: OP")
    static void opsGoFromZeroToTwenty() {
        FrameWriter x = new FrameWriter();
        int[] bad = {-1, 21, 22, 255, LEAST, MOST, -20, LEAST + 3};
        for (int op : bad) {
            due("op(" + op + ", 0)", x.op(op, 0), BAD);
        }
        due("INSTRUCTIONS", x.told(1), 0);
        for (int op = 0; op <= 20; op++) {
            due("op(" + op + ", 0)", x.op(op, 0), op);
        }
    }

    @Sentence(of = "Promise 4", says = "a (a LOCAL, of 4, 6 not 7")
    static void theNumberOfLoadAndStoreIsALocal() {
        int[] ops = {LOAD, STORE};
        for (int op : ops) {
            dueNumbers(op, 0, 7, new FrameWriter());
        }
    }

    @Sentence(of = "Promise 4", says = "of 4, 6 not 7")
    static void theNumberOfLoad2AndStore2HasANextOne() {
        int[] ops = {LOAD2, STORE2};
        for (int op : ops) {
            dueNumbers(op, 0, 6, new FrameWriter());
        }
    }

    @Sentence(of = "Promise 4", says = "a TYPE")
    static void theNumberOfCastAndUseIsAType() {
        int[] ops = {CAST, USE};
        for (int op : ops) {
            dueNumbers(op, 0, 0, new FrameWriter());
            dueNumbers(op, 0, 5, withTypes());
        }
    }

    @Sentence(of = "Promise 4, part 2", says = "to be of TYPE a (no FACE)")
    static void theNumberOfBeginIsNoFace() {
        dueNumbers(BEGIN, 0, 0, new FrameWriter());
        FrameWriter x = withTypes();
        due("op(12, the FACE)", x.op(BEGIN, 4), BAD);
        due("op(12, no such TYPE)", x.op(BEGIN, 6), BAD);
        due("op(12, -1)", x.op(BEGIN, -1), BAD);
        due("INSTRUCTIONS", x.told(1), 0);
        int[] types = {0, 1, 2, 3, 5};
        for (int n = 0; n < types.length; n++) {
            due("op(12, " + types[n] + ")", x.op(BEGIN, types[n]), n);
        }
    }

    @Sentence(of = "Promise 4", says = "of 16 to 18 0 .. 29")
    static void theNumberOfAJumpIsUpTo29() {
        int[] ops = {IF, SAME, GO};
        for (int op : ops) {
            dueNumbers(op, 0, 29, new FrameWriter());
        }
    }

    /** Just the numbers least .. most are taken, and what is refused is not there. */
    private static void dueNumbers(int op, int least, int most, FrameWriter x) {
        int[] bad = {least - 1, most + 1, most + 2, least - 100, LEAST, MOST, LEAST + least, MOST - most};
        for (int a : bad) {
            due("op(" + op + ", " + a + ")", x.op(op, a), BAD);
        }
        due("INSTRUCTIONS", x.told(1), 0);
        for (int a = least; a <= most; a++) {
            due("op(" + op + ", " + a + ")", x.op(op, a), a - least);
        }
        due("INSTRUCTIONS", x.told(1), most - least + 1);
    }

    @Sentence(of = "Promise 4", says = "of others it is not looked at")
    static void theNumberOfOthersIsAny() {
        int[] ops = {INT, LONG, NULL, POP, POP2, DUP, ADD, ADD2, MAKE, END, THROW};
        int[] numbers = {LEAST, -1, 8, 30, 100, MOST};
        for (int op : ops) {
            FrameWriter x = new FrameWriter();
            for (int n = 0; n < numbers.length; n++) {
                due("op(" + op + ", " + numbers[n] + ")", x.op(op, numbers[n]), n);
            }
        }
        FrameWriter x = program(INT, MOST, DUP, -1, ADD, LEAST, POP, 77, LONG, 8, POP2, -9, BEGIN, 0, MAKE, LEAST, NULL, 30, THROW, MOST);
        dueFine("they do what they do", x, 0);
        due("REACHED", x.told(4), 10);
    }

    @Sentence(of = "Promise 4, of all", says = "Refused calls change nothing.")
    static void refusedInstructionsLeaveNoTrace() {
        FrameWriter x = program(INT, 0);
        x.op(LOAD, 8);
        x.op(21, 0);
        x.op(BEGIN, 1);
        extend(x, STORE, 0, END, 0);
        dueFine("only those that were taken", x, 0);
        dueState("behind them", x, 2, 1);
    }

    // ---- Promise 5: handler

    @Sentence(of = "Promise 5, part 2", says = "HANDLERS (4 at most)")
    static void fourHandlersAreTheMost() {
        FrameWriter x = program(GO, 1, END, 0, THROW, 0, THROW, 0, THROW, 0, THROW, 0, THROW, 0);
        for (int n = 0; n < 4; n++) {
            due("handler " + n, x.handler(0, 1, 2 + n, 0), n);
        }
        due("HANDLERS", x.told(2), 4);
        due("one more", x.handler(0, 1, 6, 0), FULL);
        due("HANDLERS still", x.told(2), 4);
        dueFrames("all four, not the fifth", x, 1, 2, 3, 4, 5);
        due("one more", x.handler(0, 1, 6, 0), FULL);
        due("FRAMES are there still", x.frame(4), 5);
    }

    @Sentence(of = "Promise 5", says = "BAD: from, to, at are 0 .. 30 (at 29)")
    static void whereHandlersMayBe() {
        int[][] bad = {{-1, 5, 0}, {LEAST, 5, 0}, {0, 31, 0}, {0, MOST, 0}, {29, 31, 0}, {30, 31, 0}, {0, 1, -1}, {0, 1, 30}, {0, 1, 31},
            {0, 1, LEAST}, {0, 1, MOST}, {-1, 31, 0}, {LEAST, MOST, 0}};
        for (int[] b : bad) {
            FrameWriter x = new FrameWriter();
            due("handler(" + b[0] + ", " + b[1] + ", " + b[2] + ", 0)", x.handler(b[0], b[1], b[2], 0), BAD);
            due("HANDLERS", x.told(2), 0);
        }
        FrameWriter x = new FrameWriter();
        due("the widest", x.handler(0, 30, 29, 0), 0);
        due("the last", x.handler(29, 30, 0, 0), 1);
        due("the first", x.handler(0, 1, 0, 0), 2);
    }

    @Sentence(of = "Promise 5", says = "from below to")
    static void fromIsBelowTo() {
        int[][] bad = {{0, 0}, {1, 0}, {1, 1}, {29, 29}, {30, 30}, {30, 29}, {30, 0}, {5, 4}, {0, -1}, {0, LEAST}, {MOST, 30}, {MOST, LEAST}};
        for (int[] b : bad) {
            FrameWriter x = new FrameWriter();
            due("handler(" + b[0] + ", " + b[1] + ", 0, 0)", x.handler(b[0], b[1], 0, 0), BAD);
            due("HANDLERS", x.told(2), 0);
        }
    }

    @Sentence(of = "Promise 5", says = "the TYPE (it may be a FACE)")
    static void theTypeOfAHandler() {
        FrameWriter x = new FrameWriter();
        due("no such TYPE yet", x.handler(0, 1, 0, 1), BAD);
        x = withTypes();
        int[] bad = {-1, 6, 7, 8, 100, LEAST, MOST};
        for (int type : bad) {
            due("of TYPE " + type, x.handler(0, 1, 0, type), BAD);
        }
        due("HANDLERS", x.told(2), 0);
        due("of TYPE 0", x.handler(0, 1, 0, 0), 0);
        due("of the last TYPE", x.handler(0, 1, 0, 5), 1);
        due("of a FACE", x.handler(0, 1, 0, 4), 2);
    }

    @Sentence(of = "Promise 5, of all", says = "Refused calls change nothing.")
    static void refusedHandlersLeaveNoTrace() {
        FrameWriter x = program(GO, 1, END, 0, THROW, 0);
        x.handler(0, 1, 2, 1);
        x.handler(0, 1, 30, 0);
        x.handler(1, 1, 2, 0);
        dueFrames("no HANDLER", x, 1);
        due("the number of the next one", x.handler(0, 1, 2, 0), 0);
        dueFrames("one HANDLER", x, 1, 2);
    }

    // ---- what refuses a call, and what ends STATES and FRAMES

    /** TYPES, LOCALS, HANDLERS and a loop: STATES, FRAMES and bytes. */
    private static FrameWriter made() {
        FrameWriter x = withLocals(0, 1, 1, 102, 6, 2);
        extend(x, INT, 0, IF, 0, LOAD, 1, THROW, 0, STORE, 2, END, 0);
        x.handler(2, 4, 4, 3);
        due("make()", x.make(), 2);
        return x;
    }

    @Sentence(of = "Promise 2, of all", says = "type(), local(), op(), handler() end STATES, FRAMES.")
    static void aTypeEndsStatesAndFrames() {
        FrameWriter x = made();
        due("type()", x.type(0, false), 6);
        dueNothingMade("type()", x);
        x = made();
        due("type() of a FACE", x.type(0, true), 6);
        dueNothingMade("type() of a FACE", x);
    }

    @Sentence(of = "Promise 3, of all", says = "type(), local(), op(), handler() end STATES, FRAMES.")
    static void aLocalEndsStatesAndFrames() {
        int[][] told = {{3, 1}, {0, 1}, {7, 0}, {3, 2}, {6, 2}};
        for (int[] t : told) {
            FrameWriter x = made();
            due("local()", x.local(t[0], t[1]), 1);
            dueNothingMade("local(" + t[0] + ", " + t[1] + ")", x);
        }
    }

    @Sentence(of = "Promise 4, of all", says = "type(), local(), op(), handler() end STATES, FRAMES.")
    static void anInstructionEndsStatesAndFrames() {
        FrameWriter x = made();
        due("op()", x.op(END, 0), 6);
        dueNothingMade("op()", x);
    }

    @Sentence(of = "Promise 5, of all", says = "type(), local(), op(), handler() end STATES, FRAMES.")
    static void aHandlerEndsStatesAndFrames() {
        FrameWriter x = made();
        due("handler()", x.handler(29, 30, 0, 0), 1);
        dueNothingMade("handler()", x);
    }

    @Sentence(of = "Promise 7, of all", says = "The FAULT of the latest make(), 1 to 4")
    static void whatEndsStatesLeavesTheFaultOfTheLatestMake() {
        FrameWriter x = program(NULL, 0, IF, 2, END, 0);
        dueFault("by its KIND", x, 4, 1);
        x.type(0, false);
        due("behind type()", x.fault(), 4);
        x.local(0, 1);
        due("behind local()", x.fault(), 4);
        x.op(END, 0);
        due("behind op()", x.fault(), 4);
        x.handler(2, 3, 3, 0);
        due("behind handler()", x.fault(), 4);
    }

    @Sentence(of = "Promises 2 to 5, of all", says = "BAD: a number is not as told, there is no such")
    static void whatIsBadChangesNothing() {
        FrameWriter x = made();
        String before = all(x);
        due("type()", x.type(6, false), BAD);
        due("type() of a FACE", x.type(4, false), BAD);
        due("a FACE of 1", x.type(1, true), BAD);
        due("local() of 8", x.local(8, 1), BAD);
        due("local() of KIND 3", x.local(0, 3), BAD);
        due("a LONG in 7", x.local(7, 2), BAD);
        due("op() 21", x.op(21, 0), BAD);
        due("op() with LOCAL 8", x.op(LOAD, 8), BAD);
        due("handler() 1 to 1", x.handler(1, 1, 0, 0), BAD);
        due("handler() of TYPE 6", x.handler(0, 1, 0, 6), BAD);
        due("plant() in FRAME 2", x.plant(2, 0, 0), BAD);
        due("plant() of KIND 2", x.plant(0, 0, 2), BAD);
        due("joined()", x.joined(5, 0), BAD);
        due("goes()", x.goes(0, 5), BAD);
        due("told()", x.told(5), BAD);
        due("state()", x.state(0, 14), BAD);
        dueThrow("out()", x, x.packed());
        if (!all(x).equals(before)) {
            fail("a refused call changed " + before + " to " + all(x));
        }
        due("make() again", x.make(), 2);
        if (!all(x).equals(before)) {
            fail("a refused call made " + all(x) + " of " + before);
        }
    }

    @Sentence(of = "Promises 2, 4, 5, of all", says = "FULL")
    static void whatIsFullChangesNothing() {
        FrameWriter x = withLocals(0, 1, 1, 102, 6, 2);
        extend(x, INT, 0, IF, 0, LOAD, 1, THROW, 0, STORE, 2, END, 0);
        for (int at = 6; at < 30; at++) {
            x.op(END, 0);
        }
        for (int n = 0; n < 4; n++) {
            x.handler(2, 4, 4, 3);
        }
        x.type(0, false);
        x.type(0, false);
        due("make()", x.make(), 2);
        String before = all(x);
        due("type()", x.type(0, false), FULL);
        due("op()", x.op(END, 0), FULL);
        due("handler()", x.handler(0, 1, 0, 0), FULL);
        if (!all(x).equals(before)) {
            fail("what was full changed " + before + " to " + all(x));
        }
    }

    @Sentence(of = "Promises 7 to 16, of all", says = "type(), local(), op(), handler() end STATES, FRAMES.")
    static void noOtherCallEndsStatesAndFrames() {
        FrameWriter x = made();
        String before = all(x);
        x.fault();
        x.state(0, 0);
        x.frame(0);
        x.packed();
        x.out(0);
        x.judge();
        x.joined(100, 101);
        x.goes(100, 101);
        x.told(4);
        due("plant()", x.plant(1, 3, 0), 0);
        if (!all(x).equals(before)) {
            fail("a call that asks changed " + before + " to " + all(x));
        }
    }

    @Sentence(of = "Promises 2 to 6", says = "type(), local(), op(), handler() end STATES, FRAMES.")
    static void whatWasToldOutlastsMake() {
        FrameWriter x = made();
        x.op(END, 0);
        due("make() again", x.make(), 2);
        dueState("the LOCALS that were told", x, 0, 1, 102, 0, 0, 0, 0, 2, 3);
        dueState("the HANDLER that was told", x, 4, 1, 102, 0, 0, 0, 0, 2, 3, 103);
    }

    @Sentence(of = "of all", says = "An object is used for at most 512 calls after it has been made")
    static void the512thCallIsAnswered() {
        FrameWriter x = program(INT, 0, STORE, 0, GO, 3, END, 0);
        for (int call = 6; call <= 510; call += 3) {
            due("make() as call " + call, x.make(), 1);
            due("judge() as call " + (call + 1), x.judge(), NONE);
            due("local() as call " + (call + 2), x.local(1, call % 2), 1);
        }
        FrameWriter y = program(INT, 0, STORE, 0, GO, 3, END, 0);
        for (int call = 6; call <= 511; call++) {
            due("make() as call " + call, y.make(), 1);
        }
        due("out(0) as call 512", y.out(0), 252);
    }

    public static void main(String[] args) {
        runSentences(TellingSentencesTest.class);
    }
}
