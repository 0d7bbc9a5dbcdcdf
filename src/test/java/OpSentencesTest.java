/** What each OP wants and does, and HANDLERS: the document's part 2, as Promises 6 to 8 show it, sentence by sentence. */
final class OpSentencesTest extends Checks {
    /** What lies on top, as it is brought there by push(): TOP, INT, a LONG with its HALF, NULL, THINGS, what is begun. */
    private static final int[] TOPMOST = {0, 1, 2, 4, 100, 101, 104, 105, 200};
    private static final int[] REFERENCES = {4, 100, 101, 104, 105};
    private static final int[] WHOLE = {1, 4, 100, 101, 104, 105, 200};

    /** Brings a KIND on THE PILE; 200: what a BEGIN has begun. */
    private static void push(FrameWriter x, int kind) {
        int at = x.told(1);
        if (kind == 0) {
            extend(x, INT, 0, IF, at + 4, NULL, 0, GO, at + 5, INT, 0);
        } else if (kind == 200) {
            extend(x, BEGIN, 0);
        } else if (kind >= 100) {
            extend(x, NULL, 0, CAST, kind - 100);
        } else {
            extend(x, kind == 1 ? INT : kind == 2 ? LONG : NULL, 0);
        }
    }

    private static boolean has(int[] kinds, int kind) {
        for (int one : kinds) {
            if (one == kind) {
                return true;
            }
        }
        return false;
    }

    /** The OP on a PILE of these, from the bottom up: it wants them, or it is FAULT 4. Jumps lead to the next one. */
    private static void dueWanted(int op, int a, boolean wanted, int... pile) {
        FrameWriter x = withTypes();
        for (int kind : pile) {
            push(x, kind);
        }
        int at = x.told(1);
        extend(x, op, op >= IF && op <= GO ? at + 1 : a, END, 0);
        StringBuilder what = new StringBuilder("OP " + op + " (" + a + ") on");
        for (int kind : pile) {
            what.append(' ').append(kind);
        }
        if (wanted) {
            due(what + ": fault()", x.make() >= 0 ? x.fault() : -1, 0);
            due(what + ": judge()", x.judge(), NONE);
        } else {
            dueFault(what.toString(), x, 4, at);
        }
    }

    private static void dueWantedOnTop(int op, int a, int[] wanted, int... below) {
        for (int kind : TOPMOST) {
            int[] pile = new int[below.length + 1];
            System.arraycopy(below, 0, pile, 0, below.length);
            pile[below.length] = kind;
            dueWanted(op, a, has(wanted, kind), pile);
        }
    }

    // ---- what comes on THE PILE

    @Sentence(of = "Promise 8, part 2", says = "0 an INT comes on THE PILE; 1 a LONG; 2 NULL.")
    static void intLongAndNullCome() {
        FrameWriter x = program(INT, 0, LONG, 0, NULL, 0, INT, 0, NULL, 0, END, 0);
        dueFine("one upon the other", x, 0);
        duePile("nothing", x, 0);
        duePile("an INT", x, 1, 1);
        duePile("a LONG, in two places", x, 2, 1, 2, 3);
        duePile("NULL", x, 3, 1, 2, 3, 4);
        duePile("an INT", x, 4, 1, 2, 3, 4, 1);
        duePile("the sixth", x, 5, 1, 2, 3, 4, 1, 4);
    }

    // ---- LOAD and STORE

    @Sentence(of = "Promise 8, part 2", says = "3 LOAD: what is in LOCAL a comes there")
    static void loadBringsWhatIsThere() {
        int[] kinds = {1, 4, 100, 104, 105};
        int[] places = {0, 7};
        for (int kind : kinds) {
            for (int place : places) {
                FrameWriter x = extend(withLocals(place, kind), LOAD, place, END, 0);
                dueFine("LOAD of " + kind, x, 0);
                due("it is on THE PILE", x.state(1, 8), kind);
                due("once", x.state(1, 9), NONE);
                due("and in its LOCAL still", x.state(1, place), kind);
            }
        }
        FrameWriter x = program(BEGIN, 0, STORE, 2, LOAD, 2, END, 0);
        dueFine("LOAD of what is begun", x, 0);
        dueState("LOAD of what is begun", x, 3, 0, 0, 200, 0, 0, 0, 0, 0, 200);
    }

    @Sentence(of = "Promise 6, part 2", says = "3 LOAD: what is in LOCAL a comes there: no TOP, LONG, HALF.")
    static void loadWantsNoTopLongHalf() {
        dueFault("TOP", extend(withLocals(1, 1), LOAD, 0, END, 0), 4, 0);
        dueFault("LONG", extend(withLocals(0, 2), LOAD, 0, END, 0), 4, 0);
        dueFault("HALF", extend(withLocals(0, 2), LOAD, 1, END, 0), 4, 0);
        dueFault("the last HALF", extend(withLocals(6, 2), LOAD, 7, END, 0), 4, 0);
    }

    @Sentence(of = "Promise 8, part 2", says = "4 LOAD2: the LONG in LOCALS a, a + 1.")
    static void load2BringsTheLong() {
        int[] places = {0, 3, 6};
        for (int place : places) {
            FrameWriter x = extend(withLocals(place, 2), LOAD2, place, END, 0);
            dueFine("LOAD2 of " + place, x, 0);
            due("LONG", x.state(1, 8), 2);
            due("HALF", x.state(1, 9), 3);
            due("in its LOCAL still", x.state(1, place), 2);
            due("and the next", x.state(1, place + 1), 3);
        }
    }

    @Sentence(of = "Promise 6, part 2", says = "4 LOAD2: the LONG in LOCALS a, a + 1.")
    static void load2WantsALong() {
        dueFault("TOPS", extend(withLocals(), LOAD2, 0, END, 0), 4, 0);
        dueFault("INTS", extend(withLocals(0, 1, 1, 1), LOAD2, 0, END, 0), 4, 0);
        dueFault("a HALF and TOP", extend(withLocals(0, 2), LOAD2, 1, END, 0), 4, 0);
        dueFault("a HALF and another LONG", extend(withLocals(0, 2, 2, 2), LOAD2, 1, END, 0), 4, 0);
        dueFault("TOP and a LONG", extend(withLocals(1, 2), LOAD2, 0, END, 0), 4, 0);
        dueFault("THINGS", extend(withLocals(6, 100, 7, 100), LOAD2, 6, END, 0), 4, 0);
    }

    @Sentence(of = "Promise 8, part 2", says = "5 STORE: the top goes into LOCAL a")
    static void storeTakesTheTop() {
        int[] kinds = {1, 4, 101, 104};
        int[] places = {0, 7};
        for (int kind : kinds) {
            for (int place : places) {
                FrameWriter x = withLocals(place, 105);
                extend(x, INT, 0);
                push(x, kind);
                int at = x.told(1);
                extend(x, STORE, place, END, 0);
                dueFine("STORE of " + kind, x, 0);
                due("it is in its LOCAL", x.state(at + 1, place), kind);
                due("what lay below is on THE PILE", x.state(at + 1, 8), 1);
                due("it is not", x.state(at + 1, 9), NONE);
            }
        }
    }

    @Sentence(of = "Promise 6, part 2", says = "5 STORE: the top goes into LOCAL a: no TOP, HALF.")
    static void storeWantsNoTopHalf() {
        dueWantedOnTop(STORE, 0, WHOLE);
        dueWantedOnTop(STORE, 7, WHOLE, 1);
    }

    @Sentence(of = "Promise 8, part 2", says = "6 STORE2: a LONG goes into LOCALS a, a + 1.")
    static void store2TakesTheLong() {
        FrameWriter x = program(INT, 0, LONG, 0, STORE2, 0, LONG, 0, STORE2, 6, END, 0);
        dueFine("STORE2", x, 0);
        dueState("the first LOCALS", x, 3, 2, 3, 0, 0, 0, 0, 0, 0, 1);
        dueState("the last LOCALS", x, 5, 2, 3, 0, 0, 0, 0, 2, 3, 1);
    }

    @Sentence(of = "Promise 6, part 2", says = "6 STORE2: a LONG goes into LOCALS a, a + 1.")
    static void store2WantsALong() {
        dueWanted(STORE2, 0, true, 2);
        dueWanted(STORE2, 6, true, 1, 2);
        dueWanted(STORE2, 0, false, 2, 1);
        dueWanted(STORE2, 0, false, 1, 1);
        dueWanted(STORE2, 0, false, 0, 0);
        dueWanted(STORE2, 0, false, 100, 4);
        dueWanted(STORE2, 0, false, 2, 0);
    }

    @Sentence(of = "Promise 8, part 2", says = "(Where that lies over one place of a LONG, its other one becomes TOP.)")
    static void storeOverOnePlaceOfALong() {
        dueStored("over the first", STORE, 2, withLocals(2, 2), 0, 0, 1, 0);
        dueStored("over the second", STORE, 3, withLocals(2, 2), 0, 0, 0, 1);
        dueStored("over the very first", STORE, 0, withLocals(0, 2, 2, 2), 1, 0, 2, 3);
        dueStored("over the very last", STORE, 7, withLocals(4, 2, 6, 2), 0, 0, 0, 0, 2, 3, 0, 1);
        dueStored("behind a LONG", STORE, 4, withLocals(2, 2), 0, 0, 2, 3, 1);
        dueStored("ahead of a LONG", STORE, 1, withLocals(2, 2), 0, 1, 2, 3);
        dueStored("between two", STORE, 3, withLocals(0, 2, 2, 2, 4, 2), 2, 3, 0, 1, 2, 3);
    }

    @Sentence(of = "Promise 8, part 2", says = "(Where that lies over one place of a LONG, its other one becomes TOP.)")
    static void store2OverOnePlaceOfALong() {
        dueStored("over the first", STORE2, 1, withLocals(2, 2), 0, 2, 3, 0);
        dueStored("over the second", STORE2, 3, withLocals(2, 2), 0, 0, 0, 2, 3);
        dueStored("over one of each of two", STORE2, 3, withLocals(2, 2, 4, 2), 0, 0, 0, 2, 3, 0);
        dueStored("over both of one", STORE2, 2, withLocals(0, 2, 2, 2, 4, 2), 2, 3, 2, 3, 2, 3);
        dueStored("over the very first", STORE2, 1, withLocals(0, 2), 0, 2, 3);
        dueStored("over the very last", STORE2, 5, withLocals(6, 2), 0, 0, 0, 0, 0, 2, 3, 0);
        dueStored("beside others", STORE2, 2, withLocals(1, 105, 4, 4), 0, 105, 2, 3, 4);
    }

    private static void dueStored(String what, int op, int a, FrameWriter x, int... want) {
        extend(x, op == STORE ? INT : LONG, 0, op, a, END, 0);
        dueFine(what, x, 0);
        dueState(what, x, 2, want);
    }

    // ---- POP, POP2, DUP

    @Sentence(of = "Promise 6, Promise 8, part 2", says = "7 POP: the top one goes: no TOP, HALF.")
    static void popTakesTheTop() {
        dueWantedOnTop(POP, 0, WHOLE);
        FrameWriter x = program(LONG, 0, NULL, 0, POP, 0, END, 0);
        dueFine("POP", x, 0);
        duePile("just the top one", x, 3, 2, 3);
    }

    @Sentence(of = "Promise 8, part 2", says = "8 POP2: the top two go")
    static void pop2TakesTheTopTwo() {
        FrameWriter x = program(NULL, 0, LONG, 0, POP2, 0, INT, 0, DUP, 0, POP2, 0, END, 0);
        dueFine("POP2", x, 0);
        duePile("of a LONG", x, 3, 4);
        duePile("of two INTS", x, 6, 4);
    }

    @Sentence(of = "Promise 6, part 2", says = "8 POP2: the top two go: a LONG, or two that are neither TOP nor LONG nor HALF.")
    static void pop2WantsALongOrTwoOthers() {
        dueWanted(POP2, 0, true, 2);
        dueWanted(POP2, 0, true, 1, 2);
        for (int kind : WHOLE) {
            dueWantedOnTop(POP2, 0, new int[] {1, 2, 4, 100, 101, 104, 105, 200}, kind);
            dueWanted(POP2, 0, false, 0, kind);
            dueWanted(POP2, 0, false, 2, kind);
        }
        dueWanted(POP2, 0, false, 0, 0);
        dueWanted(POP2, 0, false, 2, 0);
    }

    @Sentence(of = "Promise 6, Promise 8, part 2", says = "9 DUP: the top one comes once more: no TOP, HALF.")
    static void dupBringsTheTopOnceMore() {
        dueWantedOnTop(DUP, 0, WHOLE);
        FrameWriter x = program(INT, 0, BEGIN, 0, DUP, 0, END, 0);
        dueFine("DUP", x, 0);
        duePile("of what is begun", x, 3, 1, 201, 201);
    }

    // ---- ADD and ADD2

    @Sentence(of = "Promise 6, Promise 8, part 2", says = "10 ADD: of two INTS comes one")
    static void addMakesOneIntOfTwo() {
        for (int kind : TOPMOST) {
            dueWanted(ADD, 0, kind == 1, 1, kind);
            dueWanted(ADD, 0, kind == 1, kind, 1);
        }
        dueWanted(ADD, 0, false, 2);
        dueWanted(ADD, 0, false, 4, 4);
        FrameWriter x = program(NULL, 0, INT, 0, INT, 0, ADD, 0, END, 0);
        dueFine("ADD", x, 0);
        duePile("one INT", x, 4, 4, 1);
    }

    @Sentence(of = "Promise 6, Promise 8, part 2", says = "11 ADD2: of two LONGS.")
    static void add2MakesOneLongOfTwo() {
        dueWanted(ADD2, 0, true, 2, 2);
        dueWanted(ADD2, 0, true, 1, 2, 2);
        dueWanted(ADD2, 0, false, 1, 1, 2);
        dueWanted(ADD2, 0, false, 2, 1, 1);
        dueWanted(ADD2, 0, false, 1, 2, 1);
        dueWanted(ADD2, 0, false, 1, 1, 1, 1);
        dueWanted(ADD2, 0, false, 2, 4, 100);
        dueWanted(ADD2, 0, false, 2, 0, 0);
        FrameWriter x = program(INT, 0, LONG, 0, LONG, 0, ADD2, 0, END, 0);
        dueFine("ADD2", x, 0);
        duePile("one LONG", x, 4, 1, 2, 3);
    }

    // ---- BEGIN and MAKE

    @Sentence(of = "Promise 8, part 2", says = "12 BEGIN: .. then such a one comes, to be of TYPE a (no FACE).")
    static void beginBringsOneOfItsOwnNumber() {
        FrameWriter x = extend(withTypes(), BEGIN, 5, BEGIN, 0, INT, 0, POP, 0, BEGIN, 5, END, 0);
        dueFine("BEGIN", x, 0);
        duePile("by the INSTRUCTION's number", x, 5, 200, 201, 204);
    }

    @Sentence(of = "Promise 8, part 2", says = "KIND 200 + p what INSTRUCTION p has begun")
    static void theLastInstructionThatMayBegin() {
        FrameWriter x = new FrameWriter();
        for (int at = 0; at < 27; at++) {
            x.op(at % 2 == 0 ? INT : at == 25 ? STORE : POP, 0);
        }
        extend(x, STORE, 1, BEGIN, 0, END, 0);
        dueFine("BEGIN at 28", x, 0);
        dueState("BEGIN at 28", x, 29, 1, 1, 0, 0, 0, 0, 0, 0, 228);
    }

    /** Whatever is begun again is TOP where its ways meet already: the first way to a BEGIN can't bring what it begins. */
    @Sentence(of = "Promise 8, part 2", says = "12 BEGIN: all that is of KIND 200 + its own number becomes TOP")
    static void whatABeginHasBegunIsTopBehindItsNext() {
        FrameWriter x = extend(withTypes(), BEGIN, 2, DUP, 0, STORE, 0, STORE, 7, GO, 0);
        dueFine("a loop", x, 1);
        dueState("behind BEGIN", x, 1, 0, 0, 0, 0, 0, 0, 0, 0, 200);
        dueState("stored in two", x, 4, 200, 0, 0, 0, 0, 0, 0, 200);
        x = extend(withTypes(), BEGIN, 1, BEGIN, 1, STORE, 0, STORE, 1, LOAD, 1, INT, 0, IF, 1, END, 0);
        dueFine("a loop with one below", x, 1);
        duePile("behind the second BEGIN", x, 2, 200, 201);
        dueState("both stored", x, 4, 201, 200);
    }

    @Sentence(of = "Promise 8, part 2", says = "12 BEGIN: all that is of KIND 200 + its own number becomes TOP")
    static void whatOthersHaveBegunStays() {
        FrameWriter x = extend(withTypes(), BEGIN, 1, STORE, 1, GO, 3, BEGIN, 2, STORE, 0, LOAD, 1, POP, 0, GO, 3);
        dueFine("a loop", x, 1);
        dueState("ahead of BEGIN", x, 3, 0, 200);
        dueState("behind BEGIN", x, 4, 0, 200, 0, 0, 0, 0, 0, 0, 203);
        dueState("behind STORE", x, 5, 203, 200);
    }

    @Sentence(of = "Promise 8, part 2", says = "13 MAKE: the top one goes, which is of KIND 200 + p: all that is of this KIND becomes a THING of its TYPE.")
    static void makeMakesAllOfItsKind() {
        FrameWriter x = extend(withTypes(), BEGIN, 5, DUP, 0, STORE, 0, DUP, 0, STORE, 7, DUP, 0, DUP, 0, MAKE, 0, END, 0);
        dueFine("MAKE", x, 0);
        dueState("ahead of it", x, 7, 200, 0, 0, 0, 0, 0, 0, 200, 200, 200, 200);
        dueState("behind it", x, 8, 105, 0, 0, 0, 0, 0, 0, 105, 105, 105);
    }

    @Sentence(of = "Promise 8, part 2", says = "all that is of this KIND becomes a THING of its TYPE")
    static void makeLeavesWhatOthersHaveBegun() {
        FrameWriter x = extend(withTypes(), BEGIN, 1, DUP, 0, STORE, 0, BEGIN, 1, DUP, 0, STORE, 1, MAKE, 0, MAKE, 0, END, 0);
        dueFine("two of one TYPE", x, 0);
        dueState("the later one is made", x, 7, 200, 101, 0, 0, 0, 0, 0, 0, 200);
        dueState("then the earlier one", x, 8, 101, 101);
        x = extend(withTypes(), BEGIN, 2, STORE, 0, BEGIN, 3, LOAD, 0, MAKE, 0, MAKE, 0, END, 0);
        dueFine("of two TYPES", x, 0);
        dueState("by its own TYPE", x, 5, 102, 0, 0, 0, 0, 0, 0, 0, 202);
        dueState("made by none", x, 6, 102);
    }

    @Sentence(of = "Promise 6, part 2", says = "13 MAKE: the top one goes, which is of KIND 200 + p")
    static void makeWantsWhatIsBegun() {
        dueWantedOnTop(MAKE, 0, new int[] {200});
        dueWantedOnTop(MAKE, 0, new int[] {200}, 200);
        FrameWriter x = program(BEGIN, 0, DUP, 0, MAKE, 0, MAKE, 0, END, 0);
        dueFault("it is made already", x, 4, 3);
    }

    // ---- CAST, USE, and what ends or branches

    @Sentence(of = "Promise 6, Promise 8, part 2", says = "14 CAST: the top one, a THING or NULL, becomes a THING of TYPE a.")
    static void castMakesAThingOfTheType() {
        for (int type = 0; type <= 5; type++) {
            dueWantedOnTop(CAST, type, REFERENCES);
        }
        FrameWriter x = extend(withLocals(0, 102), INT, 0, LOAD, 0, CAST, 3, CAST, 4, CAST, 0, END, 0);
        dueFine("CAST", x, 0);
        dueState("to one beside", x, 3, 102, 0, 0, 0, 0, 0, 0, 0, 1, 103);
        dueState("to a FACE", x, 4, 102, 0, 0, 0, 0, 0, 0, 0, 1, 104);
        dueState("to 0", x, 5, 102, 0, 0, 0, 0, 0, 0, 0, 1, 100);
    }

    @Sentence(of = "Promise 6, part 2", says = "15 USE: the top one goes, and it GOES FOR a THING of TYPE a.")
    static void useWantsWhatGoesForTheType() {
        dueWantedOnTop(USE, 0, new int[] {4, 100, 101, 104, 105});
        dueWantedOnTop(USE, 1, new int[] {4, 101, 105});
        dueWantedOnTop(USE, 2, new int[] {4});
        dueWantedOnTop(USE, 3, new int[] {4, 105});
        dueWantedOnTop(USE, 4, new int[] {4, 100, 101, 104, 105});
        dueWantedOnTop(USE, 5, new int[] {4, 105});
        FrameWriter x = program(INT, 0, NULL, 0, USE, 0, END, 0);
        dueFine("USE", x, 0);
        duePile("just the top one", x, 3, 1);
    }

    @Sentence(of = "Promise 6, Promise 8, part 2", says = "16 IF: an INT goes; on to the next one, or to a.")
    static void ifTakesAnIntAndGoesBothWays() {
        dueWantedOnTop(IF, 0, new int[] {1});
        dueWantedOnTop(IF, 0, new int[] {1}, 4);
        FrameWriter x = program(NULL, 0, INT, 0, IF, 4, END, 0, END, 0, END, 0);
        dueFine("IF", x, 1);
        duePile("the next one", x, 3, 4);
        duePile("to a", x, 4, 4);
        due("not elsewhere", x.state(5, 0), NONE);
        x = program(INT, 0, IF, 2, END, 0);
        dueFine("a is the next one", x, 1);
        due("REACHED", x.told(4), 3);
    }

    @Sentence(of = "Promise 6, Promise 8, part 2", says = "17 SAME: two that are THINGS or NULL go; likewise.")
    static void sameTakesTwoAndGoesBothWays() {
        for (int kind : REFERENCES) {
            dueWantedOnTop(SAME, 0, REFERENCES, kind);
        }
        int[] others = {0, 1, 200};
        for (int kind : others) {
            dueWantedOnTop(SAME, 0, new int[0], kind);
        }
        dueWanted(SAME, 0, false, 2);
        dueWanted(SAME, 0, false, 2, 4);
        FrameWriter x = program(INT, 0, NULL, 0, NULL, 0, SAME, 5, END, 0, END, 0, END, 0);
        dueFine("SAME", x, 1);
        duePile("the next one", x, 4, 1);
        duePile("to a", x, 5, 1);
        due("not elsewhere", x.state(6, 0), NONE);
    }

    @Sentence(of = "Promise 8, part 2", says = "18 GO: on to a alone.")
    static void goGoesToTheOneAlone() {
        FrameWriter x = program(LONG, 0, GO, 3, END, 0, END, 0);
        dueFine("GO", x, 1);
        duePile("to a", x, 3, 2, 3);
        due("not the next one", x.state(2, 0), NONE);
        due("REACHED", x.told(4), 3);
        x = program(GO, 0);
        dueFine("to itself", x, 1);
        due("REACHED", x.told(4), 1);
        x = program(INT, 0, STORE, 0, GO, 4, GO, 3, GO, 5, GO, 6, END, 0);
        dueFine("to the next one", x, 3);
        due("REACHED", x.told(4), 6);
    }

    @Sentence(of = "Promise 8, part 2", says = "19 END: not on.")
    static void endGoesNotOn() {
        FrameWriter x = program(LONG, 0, END, 0, POP2, 0, END, 0);
        dueFine("END", x, 0);
        due("REACHED", x.told(4), 2);
        dueFine("END wants nothing", program(END, 0), 0);
        dueFine("and needs no next one", program(LONG, 0, LONG, 0, LONG, 0, END, 0), 0);
    }

    @Sentence(of = "Promise 6, Promise 8, part 2", says = "20 THROW: a THING or NULL goes; not on.")
    static void throwTakesAThingAndGoesNotOn() {
        dueWantedOnTop(THROW, 0, REFERENCES);
        dueWantedOnTop(THROW, 0, REFERENCES, 1);
        FrameWriter x = program(NULL, 0, THROW, 0, END, 0);
        dueFine("THROW", x, 0);
        due("REACHED", x.told(4), 2);
        dueFine("and needs no next one", program(NULL, 0, THROW, 0), 0);
    }

    // ---- HANDLERS

    @Sentence(of = "Promise 5, part 2", says = "from each INSTRUCTION that is come to, of those from .. to - 1, one may come to at")
    static void aHandlerIsOfThoseFromUpToAheadOfTo() {
        dueCaughtLocal(0, 2, 0);
        dueCaughtLocal(1, 2, 0);
        dueCaughtLocal(2, 3, 1);
        dueCaughtLocal(2, 4, 1);
        dueCaughtLocal(4, 5, 4);
        dueCaughtLocal(4, 7, 4);
        dueCaughtLocal(4, 30, 4);
        dueCaughtLocal(1, 3, 0);
        dueCaughtLocal(3, 5, 0);
        dueCaughtLocal(0, 30, 0);
    }

    /** LOCAL 0 is TOP ahead of 0, 1, INT ahead of 2, 3, NULL behind. */
    private static void dueCaughtLocal(int from, int to, int kind) {
        FrameWriter x = program(INT, 0, STORE, 0, NULL, 0, STORE, 0, INT, 0, POP, 0, END, 0, STORE, 1, END, 0);
        x.handler(from, to, 7, 0);
        dueFine("HANDLER of " + from + " to " + to, x, 1);
        dueState("HANDLER of " + from + " to " + to, x, 7, kind, 0, 0, 0, 0, 0, 0, 0, 100);
    }

    @Sentence(of = "Promise 8, part 2", says = "from each INSTRUCTION that is come to")
    static void aHandlerOfWhatIsNotComeToIsNotComeTo() {
        FrameWriter x = program(GO, 3, INT, 0, END, 0, END, 0, THROW, 0);
        x.handler(1, 3, 4, 0);
        dueFine("nothing of it is come to", x, 1);
        due("the HANDLER is not REACHED", x.state(4, 0), NONE);
        x = program(GO, 3, INT, 0, END, 0, END, 0, THROW, 0);
        x.handler(1, 4, 4, 0);
        dueFine("the last of it is come to", x, 2);
        due("the HANDLER is REACHED", x.state(4, 8), 100);
    }

    @Sentence(of = "Promise 8, part 2", says = "with LOCALS as they are ahead of it")
    static void aHandlerHasLocalsAsAhead() {
        FrameWriter x = withLocals(0, 1, 1, 2, 3, 105);
        extend(x, NULL, 0, STORE, 0, END, 0, THROW, 0);
        x.handler(1, 2, 3, 0);
        dueFine("ahead of STORE", x, 1);
        dueState("ahead of STORE", x, 3, 1, 2, 3, 105, 0, 0, 0, 0, 100);
        x = extend(withTypes(), BEGIN, 1, DUP, 0, STORE, 0, MAKE, 0, END, 0, THROW, 0);
        x.handler(3, 4, 5, 2);
        dueFine("ahead of MAKE", x, 1);
        dueState("ahead of MAKE", x, 5, 200, 0, 0, 0, 0, 0, 0, 0, 102);
        x = extend(withTypes(), BEGIN, 1, DUP, 0, STORE, 0, MAKE, 0, END, 0, THROW, 0);
        x.handler(4, 5, 5, 2);
        dueFine("behind MAKE", x, 1);
        dueState("behind MAKE", x, 5, 101, 0, 0, 0, 0, 0, 0, 0, 102);
    }

    @Sentence(of = "Promise 8, part 2", says = "and just a THING of that TYPE on THE PILE")
    static void aHandlerHasJustItsThingOnThePile() {
        for (int type = 0; type <= 5; type++) {
            FrameWriter x = extend(withTypes(), LONG, 0, LONG, 0, LONG, 0, END, 0, THROW, 0);
            x.handler(0, 4, 4, type);
            dueFine("from PILES of any size", x, 1);
            duePile("of TYPE " + type, x, 4, 100 + type);
        }
    }

    @Sentence(of = "Promise 5, Promise 8, part 2", says = "HANDLERS (4 at most), from, to, at, of a TYPE")
    static void handlersThatBeginAtOnePlaceAreJoined() {
        FrameWriter x = extend(withTypes(), INT, 0, POP, 0, END, 0, THROW, 0);
        x.handler(0, 1, 3, 2);
        x.handler(1, 2, 3, 5);
        dueFine("two at one place", x, 1);
        duePile("two at one place", x, 3, 101);
        x.handler(0, 1, 3, 4);
        x.handler(0, 1, 3, 2);
        dueFine("four at one place, one a FACE", x, 1);
        duePile("four at one place, one a FACE", x, 3, 100);
    }

    @Sentence(of = "Promise 5, Promise 8, part 2", says = "from each INSTRUCTION that is come to, of those from .. to - 1, one may come to at")
    static void aHandlerMayBeginWithinItself() {
        FrameWriter x = extend(withLocals(0, 1), GO, 3, POP, 0, GO, 3, NULL, 0, STORE, 0, END, 0);
        x.handler(0, 6, 1, 3);
        dueFine("it lies over itself", x, 2);
        dueState("LOCALS of all its INSTRUCTIONS", x, 1, 0, 0, 0, 0, 0, 0, 0, 0, 103);
        x = extend(withTypes(), NULL, 0, STORE, 1, END, 0, STORE, 0, GO, 3);
        x.handler(0, 1, 3, 1);
        due("GO with nothing to where one lies", x.make(), -13);
        due("FAULT", x.fault(), 2);
    }

    public static void main(String[] args) {
        runSentences(OpSentencesTest.class);
    }
}
