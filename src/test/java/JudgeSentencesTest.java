/** FRAMES that are given, and JUDGED: the document's part 4, Promises 12 and 13, sentence by sentence. */
final class JudgeSentencesTest extends Checks {

    private static void duePlanted(FrameWriter x, int k, int place, int kind, int was) {
        due("plant(" + k + ", " + place + ", " + kind + ")", x.plant(k, place, kind), was);
    }

    /** What judge() answers with a KIND in one place; then what was there is there again. */
    private static void dueJudged(String what, FrameWriter x, int k, int place, int kind, int want) {
        int was = x.plant(k, place, kind);
        due(what + ": judge()", x.judge(), want);
        due(what + ": back", x.plant(k, place, was), kind);
        due(what + ": judge() again", x.judge(), NONE);
    }

    // ---- Promise 12: plant

    /** FRAME 0 at 4: LONG, HALF, a THING of 1, TOPS; what is begun, a LONG and an INT on THE PILE. */
    private static FrameWriter planted() {
        FrameWriter x = withLocals(0, 2, 2, 101);
        extend(x, BEGIN, 0, LONG, 0, INT, 0, GO, 4, END, 0);
        dueFine("one FRAME", x, 1);
        return x;
    }

    @Sentence(of = "Promise 12", says = "a place becomes of KIND 0, 1, 4, 100 + t: what it was")
    static void plantTellsWhatItWas() {
        FrameWriter x = planted();
        int[] kinds = {0, 1, 4, 100, 101, 102, 103, 104, 105};
        int was = 101;
        for (int kind : kinds) {
            duePlanted(x, 0, 2, kind, was);
            was = kind;
        }
        duePlanted(x, 0, 7, 1, 0);
        duePlanted(x, 0, 7, 0, 1);
        duePlanted(x, 0, 3, 105, 0);
        duePlanted(x, 0, 8, 4, 200);
        duePlanted(x, 0, 8, 4, 4);
        duePlanted(x, 0, 11, 0, 1);
        duePlanted(x, 0, 11, 104, 0);
    }

    @Sentence(of = "Promise 12", says = "BAD: the FRAME")
    static void plantInAFrameThatIsNone() {
        FrameWriter x = planted();
        int[] bad = {-1, 1, 2, 4, 29, 30, LEAST, MOST};
        for (int k : bad) {
            duePlanted(x, k, 2, 0, BAD);
        }
        due("as it was", x.judge(), NONE);
        x = program(END, 0);
        duePlanted(x, 0, 0, 0, BAD);
        x.make();
        duePlanted(x, 0, 0, 0, BAD);
        x = planted();
        x.local(7, 0);
        duePlanted(x, 0, 2, 0, BAD);
        x = program(GO, 1, POP, 0, END, 0);
        x.make();
        duePlanted(x, 0, 0, 0, BAD);
    }

    @Sentence(of = "Promise 12", says = "BAD: .. the place (not on its PILE")
    static void plantInAPlaceThatIsNone() {
        FrameWriter x = planted();
        int[] bad = {-1, 12, 13, 14, 15, LEAST, MOST};
        for (int place : bad) {
            duePlanted(x, 0, place, 0, BAD);
            duePlanted(x, 0, place, 1, BAD);
        }
        x = program(GO, 1, END, 0);
        dueFine("no PILE", x, 1);
        duePlanted(x, 0, 8, 0, BAD);
        duePlanted(x, 0, 7, 0, 0);
        x = program(INT, 0, INT, 0, LONG, 0, INT, 0, INT, 0, GO, 6, END, 0);
        dueFine("a full PILE", x, 1);
        duePlanted(x, 0, 13, 0, 1);
        duePlanted(x, 0, 14, 0, BAD);
        due("judge()", x.judge(), NONE);
    }

    @Sentence(of = "Promise 12", says = "a LONG or HALF is there")
    static void plantOverALong() {
        FrameWriter x = planted();
        int[] places = {0, 1, 9, 10};
        int[] kinds = {0, 1, 4, 100};
        for (int place : places) {
            for (int kind : kinds) {
                duePlanted(x, 0, place, kind, BAD);
            }
        }
        due("as it was", x.judge(), NONE);
    }

    @Sentence(of = "Promise 12", says = "BAD: .. the KIND.")
    static void plantAKindThatMayNotBe() {
        FrameWriter x = planted();
        int[] bad = {-1, 2, 3, 5, 99, 106, 107, 199, 200, 203, 229, 230, LEAST, MOST};
        for (int kind : bad) {
            duePlanted(x, 0, 2, kind, BAD);
            duePlanted(x, 0, 8, kind, BAD);
        }
        due("as it was", x.judge(), NONE);
        duePlanted(x, 0, 2, 101, 101);
        duePlanted(x, 0, 8, 0, 200);
    }

    @Sentence(of = "Promise 12", says = "as it is given to the judge (not as it is WRITTEN, and not in STATES)")
    static void plantChangesWhatTheJudgeGetsAlone() {
        FrameWriter x = withLocals(0, 102);
        extend(x, LOAD, 0, GO, 2, POP, 0, END, 0);
        dueFine("made", x, 1);
        duePlanted(x, 0, 0, 101, 102);
        duePlanted(x, 0, 8, 1, 102);
        due("the judge gets it", x.judge(), 1);
        dueState("STATES", x, 2, 102, 0, 0, 0, 0, 0, 0, 0, 102);
        dueState("STATES behind it", x, 3, 102);
        dueBytes("WRITTEN", x, 66, 7, 2);
        due("FRAMES", x.frame(0), 2);
        due("REACHED", x.told(4), 4);
    }

    @Sentence(of = "Promise 12", says = "In FRAME k")
    static void plantChangesThatFrameAlone() {
        FrameWriter x = withLocals(0, 1);
        extend(x, GO, 1, GO, 2, LOAD, 0, POP, 0, END, 0);
        dueFine("two FRAMES", x, 2);
        duePlanted(x, 1, 0, 0, 1);
        duePlanted(x, 0, 0, 1, 1);
        duePlanted(x, 1, 0, 1, 0);
        duePlanted(x, 0, 0, 0, 1);
        duePlanted(x, 1, 0, 1, 1);
    }

    @Sentence(of = "Promise 12, Promise 6", says = "STATES, FRAMES are worked out")
    static void makeForgetsWhatWasPlanted() {
        FrameWriter x = withLocals(0, 102);
        extend(x, LOAD, 0, GO, 2, POP, 0, END, 0);
        dueFine("made", x, 1);
        duePlanted(x, 0, 8, 0, 102);
        due("TOP is not wanted", x.judge(), 2);
        dueFine("made anew", x, 1);
        duePlanted(x, 0, 8, 102, 102);
    }

    @Sentence(of = "Promise 12, Promise 13", says = "In FRAME k, as it is given to the judge")
    static void whatIsPlantedStaysTillItIsPlantedAgain() {
        FrameWriter x = withLocals(0, 102);
        extend(x, LOAD, 0, GO, 2, POP, 0, END, 0);
        dueFine("made", x, 1);
        duePlanted(x, 0, 8, 103, 102);
        due("judge()", x.judge(), 1);
        due("judge() again", x.judge(), 1);
        x.plant(0, 8, 2);
        x.type(9, false);
        due("behind refused calls", x.judge(), 1);
        duePlanted(x, 0, 8, 101, 103);
        due("judge()", x.judge(), NONE);
    }

    // ---- Promise 13: judge

    @Sentence(of = "Promise 13", says = "BAD: there are no FRAMES.")
    static void judgeWithoutFrames() {
        FrameWriter x = new FrameWriter();
        due("new", x.judge(), BAD);
        x.op(END, 0);
        due("not made", x.judge(), BAD);
        x.make();
        due("made, and are none", x.judge(), NONE);
        x.handler(1, 2, 0, 0);
        due("ended", x.judge(), BAD);
        x = program(GO, 1, POP, 0, END, 0);
        x.make();
        due("a FAULT", x.judge(), BAD);
    }

    @Sentence(of = "Promise 13", says = "NONE: all is so")
    static void allIsSoWithTheFramesThatWereMade() {
        FrameWriter x = withLocals(0, 102, 1, 2, 3, 4, 7, 1);
        extend(x, LOAD, 0, USE, 1, BEGIN, 3, DUP, 0, STORE, 4, MAKE, 0, LOAD, 4, STORE, 3, LOAD2, 1, STORE2, 5, LOAD, 7, IF, 0);
        extend(x, NULL, 0, LOAD, 3, SAME, 18, END, 0, STORE, 6, GO, 15, END, 0);
        x.handler(0, 12, 16, 5);
        dueFine("much of it", x, 4);
    }

    @Sentence(of = "Promise 13, part 4", says = "from 0 on, by number, with what is at hand (the beginning, at 0)")
    static void theBeginningIsAtHandAtZero() {
        FrameWriter x = withLocals(0, 102, 5, 1);
        extend(x, INT, 0, IF, 0, END, 0);
        dueFine("FRAME 0 at 0", x, 1);
        dueJudged("a PARENT", x, 0, 0, 101, NONE);
        dueJudged("TOP", x, 0, 0, 0, NONE);
        dueJudged("one beside", x, 0, 0, 103, 0);
        dueJudged("NULL", x, 0, 0, 4, 0);
        dueJudged("where nothing was told", x, 0, 7, 1, 0);
        x = withLocals(0, 1);
        extend(x, LOAD, 0, STORE, 1, END, 0);
        dueFine("no FRAME at 0", x, 0);
    }

    @Sentence(of = "Promise 13, part 4", says = "at an INSTRUCTION that has a FRAME what is at hand GOES FOR it, place by place (sizes alike)")
    static void whatIsAtHandGoesForTheFrame() {
        FrameWriter x = withLocals(0, 105, 1, 4, 2, 1, 3, 2);
        // 8 is come to from 1 by IF and from 7 as the next one: LOCALS are unlike in these.
        extend(x, INT, 0, IF, 8, NULL, 0, CAST, 3, STORE, 0, NULL, 0, CAST, 2, STORE, 1, END, 0);
        dueFine("FRAME 0 at 8", x, 1);
        dueState("joined", x, 8, 103, 102, 1, 2, 3);
        dueJudged("IF brings it, the next one does not", x, 0, 0, 105, 8);
        dueJudged("neither brings it", x, 0, 0, 102, 1);
        dueJudged("NULL by IF alone", x, 0, 1, 4, 8);
        dueJudged("a FACE", x, 0, 0, 104, NONE);
        dueJudged("a FACE for NULL", x, 0, 1, 104, NONE);
        dueJudged("a PARENT", x, 0, 0, 101, NONE);
        dueJudged("TOP for INT", x, 0, 2, 0, NONE);
        dueJudged("NULL for INT", x, 0, 2, 4, 1);
        dueJudged("the last LOCAL", x, 0, 7, 1, 1);
    }

    @Sentence(of = "Promise 13, part 4", says = "what is at hand GOES FOR it, place by place")
    static void thePileGoesForTheFrameToo() {
        FrameWriter x = withLocals(0, 105, 1, 102);
        extend(x, LOAD, 0, LOAD, 1, INT, 0, IF, 4, END, 0);
        dueFine("FRAME 0 at 4", x, 1);
        dueJudged("the lowest, a PARENT", x, 0, 8, 103, NONE);
        dueJudged("the lowest, one beside", x, 0, 8, 102, 3);
        dueJudged("the top one, one beside", x, 0, 9, 103, 3);
        dueJudged("the top one, TOP", x, 0, 9, 0, NONE);
    }

    @Sentence(of = "Promise 13, part 4", says = "and the FRAME is at hand then")
    static void theFrameIsAtHandThen() {
        FrameWriter x = withLocals(0, 105);
        extend(x, GO, 1, LOAD, 0, USE, 3, LOAD, 0, USE, 1, END, 0);
        dueFine("FRAME 0 at 1", x, 1);
        dueJudged("what the first USE wants", x, 0, 0, 103, NONE);
        dueJudged("too little for the first USE", x, 0, 0, 101, 2);
        dueJudged("a FACE is too little", x, 0, 0, 104, 2);
        dueJudged("TOP is not to be loaded", x, 0, 0, 0, 1);
        x = withLocals(0, 105);
        extend(x, INT, 0, IF, 2, LOAD, 0, USE, 3, END, 0);
        dueFine("what was at hand ahead of it is not", x, 1);
        dueJudged("ahead it was enough", x, 0, 0, 100, 3);
    }

    @Sentence(of = "Promise 13, part 4", says = "one without, where nothing is at hand, is passed over")
    static void whatIsWithoutFrameIsPassedOver() {
        dueFine("GO over what would be wrong", program(GO, 3, POP, 0, THROW, 0, END, 0), 1);
        dueFine("END ahead of what would be wrong", program(END, 0, POP, 0, LOAD, 0), 0);
        FrameWriter x = program(GO, 3, POP, 0, THROW, 0, END, 0);
        x.handler(1, 3, 0, 0);
        dueFine("HANDLERS of it likewise", x, 1);
        x = program(END, 0, GO, 29, INT, 0);
        dueFine("where a is nowhere", x, 0);
    }

    @Sentence(of = "Promise 13, part 4", says = "What is at hand is as its OP wants")
    static void whatIsAtHandIsAsTheOpWants() {
        FrameWriter x = withLocals(0, 1, 1, 105, 2, 4);
        extend(x, GO, 1, LOAD, 0, IF, 3, LOAD, 1, LOAD, 2, SAME, 6, LOAD, 1, THROW, 0);
        dueFine("FRAMES at 1, 3, 6", x, 3);
        dueJudged("LOAD", x, 0, 0, 0, 1);
        dueJudged("LOAD at the second FRAME", x, 1, 1, 0, 3);
        dueJudged("what the next one wants", x, 2, 1, 0, 6);
        x = withLocals(0, 1, 1, 105, 2, 4);
        extend(x, LOAD, 0, GO, 2, IF, 3, LOAD, 1, GO, 5, THROW, 0);
        dueFine("with a PILE", x, 3);
        dueJudged("IF of TOP", x, 0, 8, 0, 2);
        dueJudged("THROW of TOP", x, 2, 8, 0, 5);
        dueJudged("THROW of a FACE", x, 2, 8, 104, NONE);
    }

    @Sentence(of = "Promise 13, part 4", says = "What is at hand is as its OP wants")
    static void judgedByEachOp() {
        int[][] pairs = {{STORE, 0}, {POP, 0}, {DUP, 0}, {CAST, 0}, {USE, 0}, {THROW, 0}};
        for (int[] pair : pairs) {
            FrameWriter x = program(NULL, 0, GO, 2, pair[0], pair[1], END, 0);
            dueFine("OP " + pair[0], x, 1);
            dueJudged("OP " + pair[0] + " of TOP", x, 0, 8, 0, 2);
            dueJudged("OP " + pair[0] + " of a THING", x, 0, 8, 100, NONE);
        }
        FrameWriter x = program(INT, 0, INT, 0, GO, 3, ADD, 0, END, 0);
        dueFine("ADD", x, 1);
        dueJudged("ADD of TOP below", x, 0, 8, 0, 3);
        dueJudged("ADD of TOP on top", x, 0, 9, 0, 3);
        x = program(INT, 0, NULL, 0, GO, 3, POP2, 0, END, 0);
        dueFine("POP2", x, 1);
        dueJudged("POP2 of TOP below", x, 0, 8, 0, 3);
        dueJudged("POP2 of TOP on top", x, 0, 9, 0, 3);
        x = program(NULL, 0, NULL, 0, GO, 3, SAME, 4, END, 0);
        dueFine("SAME", x, 2);
        dueJudged("SAME of TOP below", x, 0, 8, 0, 3);
        dueJudged("SAME of TOP on top", x, 0, 9, 0, 3);
        dueJudged("SAME of a THING", x, 0, 9, 100, NONE);
        x = program(BEGIN, 0, GO, 2, MAKE, 0, END, 0);
        dueFine("MAKE", x, 1);
        duePlanted(x, 0, 8, 0, 200);
        due("MAKE of TOP", x.judge(), 2);
    }

    @Sentence(of = "Promise 13, part 4", says = "with what is at hand")
    static void whatIsMadeIsMadeAtHandToo() {
        FrameWriter x = withTypes();
        extend(x, BEGIN, 5, DUP, 0, STORE, 0, MAKE, 0, LOAD, 0, USE, 5, GO, 7, LOAD, 0, USE, 3, END, 0);
        dueFine("FRAME 0 at 7", x, 1);
        dueJudged("a PARENT", x, 0, 0, 103, NONE);
        dueJudged("too little for USE", x, 0, 0, 101, 8);
        dueJudged("one beside", x, 0, 0, 102, 6);
    }

    @Sentence(of = "Promise 13, part 4", says = "LOCALS, and the HANDLER'S THING, GO FOR the FRAME of each HANDLER")
    static void localsAndTheThingGoForTheFrameOfAHandler() {
        FrameWriter x = withLocals(0, 105, 1, 1);
        extend(x, INT, 0, POP, 0, NULL, 0, STORE, 1, END, 0, THROW, 0);
        x.handler(1, 3, 5, 3);
        dueFine("FRAME 0 at 5", x, 1);
        dueState("FRAME 0", x, 5, 105, 1, 0, 0, 0, 0, 0, 0, 103);
        dueJudged("LOCALS, a PARENT", x, 0, 0, 103, NONE);
        dueJudged("LOCALS, one beside", x, 0, 0, 102, 1);
        dueJudged("LOCALS, the last one", x, 0, 7, 4, 1);
        dueJudged("the THING, a PARENT", x, 0, 8, 101, NONE);
        dueJudged("the THING, one that comes from it", x, 0, 8, 105, 1);
        dueJudged("the THING, a FACE", x, 0, 8, 104, NONE);
        dueJudged("the THING, INT", x, 0, 8, 1, 1);
        dueJudged("the THING, NULL", x, 0, 8, 4, 1);
        dueJudged("TOP goes into it, THROW wants none", x, 0, 8, 0, 5);
    }

    @Sentence(of = "Promise 13, part 4", says = "LOCALS, and the HANDLER'S THING, GO FOR the FRAME of each HANDLER")
    static void localsAreThoseAheadOfEach() {
        FrameWriter x = withLocals(0, 105);
        extend(x, NULL, 0, CAST, 3, STORE, 0, NULL, 0, THROW, 0, POP, 0, END, 0);
        x.handler(2, 5, 5, 0);
        dueFine("FRAME 0 at 5", x, 1);
        dueState("FRAME 0", x, 5, 103, 0, 0, 0, 0, 0, 0, 0, 100);
        dueJudged("ahead of STORE it is so, behind it not", x, 0, 0, 105, 3);
        dueJudged("ahead of STORE not", x, 0, 0, 102, 2);
        x = withLocals(0, 105);
        extend(x, NULL, 0, CAST, 3, STORE, 0, NULL, 0, THROW, 0, POP, 0, END, 0);
        x.handler(4, 5, 5, 0);
        dueFine("of THROW alone", x, 1);
        dueJudged("of THROW alone", x, 0, 0, 105, 4);
    }

    @Sentence(of = "Promise 13, part 4", says = "the FRAME of each HANDLER")
    static void eachHandlerIsLookedAt() {
        for (int n = 0; n < 4; n++) {
            FrameWriter x = extend(withTypes(), INT, 0, END, 0, THROW, 0, THROW, 0, THROW, 0, THROW, 0);
            for (int h = 0; h < 4; h++) {
                x.handler(0, 1, 2 + h, 1);
            }
            dueFine("four", x, 4);
            dueJudged("HANDLER " + n, x, n, 8, 102, 0);
            dueJudged("HANDLER " + n + ", a PARENT", x, n, 8, 100, NONE);
        }
    }

    @Sentence(of = "Promise 13, part 4", says = "LOCALS, and the HANDLER'S THING, GO FOR the FRAME of each HANDLER")
    static void aHandlerIsLookedAtWithTheFrameAtHand() {
        FrameWriter x = withLocals(0, 105);
        extend(x, GO, 1, END, 0, THROW, 0);
        x.handler(1, 2, 2, 0);
        dueFine("FRAMES at 1, 2", x, 2);
        dueJudged("the FRAME at 1 is less than that at 2 has", x, 0, 0, 103, 1);
        dueJudged("the FRAME at 2 is less", x, 1, 0, 103, NONE);
    }

    @Sentence(of = "Promise 13, part 4", says = "behind it what is at hand GOES FOR the FRAME of a, and there is one")
    static void whatIsBehindGoesForTheFrameOfA() {
        int[] ops = {IF, SAME, GO};
        for (int op : ops) {
            FrameWriter x = withLocals(0, 105, 1, 1);
            extend(x, LOAD, 0, op == IF ? INT : NULL, 0, op == SAME ? NULL : INT, 0, op, 5, END, 0, END, 0);
            dueFine("OP " + op, x, 1);
            dueJudged("OP " + op + ", a PARENT", x, 0, 0, 103, NONE);
            dueJudged("OP " + op + ", one beside", x, 0, 0, 102, 3);
            dueJudged("OP " + op + ", THE PILE behind it", x, 0, 8, 1, 3);
            dueJudged("OP " + op + ", a PARENT on THE PILE", x, 0, 8, 101, NONE);
        }
    }

    @Sentence(of = "Promise 13, part 4", says = "behind it what is at hand GOES FOR the FRAME of a")
    static void backToAFrameThatWasGiven() {
        FrameWriter x = withLocals(0, 4, 1, 105);
        extend(x, GO, 1, LOAD, 1, STORE, 0, INT, 0, IF, 1, END, 0);
        dueFine("a loop", x, 1);
        dueState("its head", x, 1, 105, 105);
        dueJudged("NULL by the way in, not by the way back", x, 0, 0, 4, 4);
        dueJudged("what is stored is by the FRAME", x, 0, 1, 103, 4);
        duePlanted(x, 0, 1, 103, 105);
        duePlanted(x, 0, 0, 101, 105);
        due("both less: it goes round", x.judge(), NONE);
    }

    @Sentence(of = "Promise 13, part 4", says = "(Behind 18 to 20 nothing is at hand.)")
    static void nothingIsAtHandBehindGoEndThrow() {
        FrameWriter x = withLocals(0, 1);
        extend(x, INT, 0, IF, 5, NULL, 0, STORE, 0, GO, 6, END, 0, END, 0);
        dueFine("GO ahead of a FRAME", x, 2);
        dueJudged("what GO has would not go for it", x, 0, 0, 1, NONE);
        dueJudged("but IF's does", x, 0, 0, 4, 1);
        x = withLocals(0, 1);
        extend(x, INT, 0, IF, 5, NULL, 0, STORE, 0, END, 0, END, 0);
        dueFine("END ahead of a FRAME", x, 1);
        dueJudged("what END has would not go for it", x, 0, 0, 1, NONE);
        x = withLocals(0, 1);
        extend(x, INT, 0, IF, 6, NULL, 0, STORE, 0, NULL, 0, THROW, 0, END, 0);
        dueFine("THROW ahead of a FRAME", x, 1);
        dueJudged("what THROW has would not go for it", x, 0, 0, 1, NONE);
        x = program(INT, 0, IF, 4, INT, 0, END, 0, END, 0);
        dueFine("sizes are unlike across END", x, 1);
    }

    @Sentence(of = "Promise 13", says = "the INSTRUCTION at which it is not, the first")
    static void theFirstIsTold() {
        FrameWriter x = withLocals(0, 105, 1, 1);
        extend(x, INT, 0, IF, 4, INT, 0, IF, 6, LOAD, 0, USE, 5, LOAD, 1, POP, 0, END, 0);
        dueFine("FRAMES at 4, 6", x, 2);
        duePlanted(x, 1, 1, 0, 1);
        due("at 6 alone", x.judge(), 6);
        duePlanted(x, 0, 0, 103, 105);
        due("at 5, ahead of 6", x.judge(), 5);
        duePlanted(x, 1, 0, 4, 105);
        due("at 3, where IF goes to 6", x.judge(), 3);
        duePlanted(x, 0, 1, 4, 1);
        due("at 1, where IF goes to 4", x.judge(), 1);
        due("and again", x.judge(), 1);
    }

    @Sentence(of = "Promise 13", says = "the INSTRUCTION at which it is not, the first")
    static void theLastInstructionMayBeTheOne() {
        FrameWriter x = program(NULL, 0);
        for (int at = 1; at < 29; at++) {
            x.op(GO, at + 1);
        }
        x.op(THROW, 0);
        due("make()", x.make(), 28);
        due("judge()", x.judge(), NONE);
        duePlanted(x, 27, 8, 0, 4);
        due("at 29", x.judge(), 29);
        duePlanted(x, 0, 8, 1, 4);
        due("at 1", x.judge(), 1);
    }

    @Sentence(of = "Promise 13, of all", says = "JUDGED by the FRAMES that are given")
    static void judgeChangesNothing() {
        FrameWriter x = withLocals(0, 105);
        extend(x, LOAD, 0, GO, 2, POP, 0, END, 0);
        dueFine("made", x, 1);
        String before = all(x);
        x.judge();
        duePlanted(x, 0, 8, 0, 105);
        due("at 2", x.judge(), 2);
        duePlanted(x, 0, 8, 105, 0);
        due("back", x.judge(), NONE);
        if (!all(x).equals(before)) {
            fail("judge() changed " + before + " to " + all(x));
        }
    }

    public static void main(String[] args) {
        runSentences(JudgeSentencesTest.class);
    }
}
