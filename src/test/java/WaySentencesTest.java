/** WAYS, FAULTS and STATES: the document's part 3, Promises 6, 7 and 8, sentence by sentence. */
final class WaySentencesTest extends Checks {
    /** By OP: how many places it needs on THE PILE, and how many are there in their stead. */
    private static final int[] NEEDS = {0, 0, 0, 0, 0, 1, 2, 1, 2, 1, 2, 4, 0, 1, 1, 1, 1, 2, 0, 0, 1};
    private static final int[] LEAVES = {1, 2, 1, 1, 2, 0, 0, 0, 0, 2, 1, 2, 1, 0, 1, 0, 0, 0, 0, 0, 0};

    /** So many INTS on THE PILE. */
    private static FrameWriter withInts(int many) {
        FrameWriter x = new FrameWriter();
        for (int n = 0; n < many; n++) {
            x.op(INT, 0);
        }
        return x;
    }

    /** Thirty INSTRUCTIONS: GO to each next one, and one more as the last. */
    private static FrameWriter thirty(int op, int a) {
        FrameWriter x = new FrameWriter();
        for (int at = 0; at < 29; at++) {
            x.op(GO, at + 1);
        }
        due("the last one", x.op(op, a), 29);
        return x;
    }

    // ---- where ways begin, and what is come to

    @Sentence(of = "Promise 8, part 3", says = "WAYS begin at 0, with what was told in LOCALS (TOP at first), nothing on THE PILE")
    static void waysBeginWithWhatWasTold() {
        FrameWriter x = extend(withLocals(0, 1, 1, 4, 2, 104, 6, 2), END, 0);
        dueFine("told", x, 0);
        dueState("told", x, 0, 1, 4, 104, 0, 0, 0, 2, 3);
        x = program(END, 0);
        dueFine("not told", x, 0);
        dueState("not told", x, 0);
    }

    @Sentence(of = "Promise 8, Promise 16, part 3", says = "what a way comes to is REACHED")
    static void whatAWayComesToIsReached() {
        FrameWriter x = program(GO, 3, INT, 0, END, 0, INT, 0, IF, 2, GO, 7, INT, 0, END, 0);
        dueFine("some", x, 3);
        boolean[] reached = {true, false, true, true, true, true, false, true};
        for (int at = 0; at < reached.length; at++) {
            due("state(" + at + ", 0)", x.state(at, 0), reached[at] ? 0 : NONE);
        }
        due("REACHED", x.told(4), 6);
        x = thirty(END, 0);
        dueFine("all thirty", x, 29);
        due("REACHED", x.told(4), 30);
        due("the last", x.state(29, 0), 0);
    }

    // ---- FAULT 1

    @Sentence(of = "Promise 6, part 3", says = "without any INSTRUCTION 1, at 0")
    static void withoutAnyInstruction() {
        dueFault("new", new FrameWriter(), 1, 0);
        FrameWriter x = withLocals(0, 1);
        x.handler(0, 30, 0, 0);
        dueFault("with all else", x, 1, 0);
    }

    @Sentence(of = "Promise 6, part 3", says = "1 a way goes on to where no INSTRUCTION is")
    static void aWayGoesOnBehindTheLast() {
        for (int op = 0; op <= 20; op++) {
            FrameWriter x = withInts(NEEDS[op]);
            int at = x.told(1);
            x.op(op, 0);
            if (op == GO) {
                due("GO back", x.make(), 1);
            } else if (op < GO) {
                dueFault("OP " + op, x, 1, at);
            } else {
                due("OP " + op + " is no FAULT by its size", x.make() >= 0 || x.fault() == 4 ? 0 : 1, 0);
            }
        }
    }

    @Sentence(of = "Promise 6, part 3", says = "1 a way goes on to where no INSTRUCTION is")
    static void aWayGoesOnBehindAllThirty() {
        dueFault("INT as the last", thirty(INT, 0), 1, 29);
        dueFault("NULL as the last", thirty(NULL, 0), 1, 29);
        dueFine("END as the last", thirty(END, 0), 29);
        dueFine("GO as the last", thirty(GO, 29), 29);
    }

    @Sentence(of = "Promise 6, part 3", says = "1 a way goes on to where no INSTRUCTION is")
    static void aWayGoesToANumberWithoutInstruction() {
        dueFault("GO to the one behind the last", program(GO, 1), 1, 0);
        dueFault("GO to 29", program(INT, 0, POP, 0, GO, 29, END, 0), 1, 2);
        dueFault("IF", program(INT, 0, IF, 3, END, 0), 1, 1);
        dueFault("SAME", program(NULL, 0, NULL, 0, SAME, 4, END, 0), 1, 2);
        dueFine("IF to the last", program(INT, 0, IF, 2, END, 0), 1);
        dueFine("GO to the last", program(GO, 1, END, 0), 1);
    }

    @Sentence(of = "Promise 6, part 3", says = "(1, 3: from which, by a HANDLER too")
    static void aHandlerBeginsWhereNoInstructionIs() {
        FrameWriter x = program(INT, 0, POP, 0, END, 0);
        x.handler(1, 3, 3, 0);
        dueFault("the first that it is of", x, 1, 1);
        x = program(INT, 0, POP, 0, END, 0);
        x.handler(2, 30, 29, 0);
        dueFault("END may come to it too", x, 1, 2);
        x = program(GO, 2, INT, 0, NULL, 0, THROW, 0);
        x.handler(0, 2, 2, 0);
        x.handler(3, 4, 4, 0);
        dueFault("unlike sizes are at a lesser one", x, 2, 2);
        x = program(GO, 2, INT, 0, NULL, 0, THROW, 0);
        x.handler(1, 2, 4, 0);
        dueFine("of one that is not REACHED", x, 1);
        x = program(END, 0);
        x.handler(1, 30, 29, 0);
        dueFine("of none that is there", x, 0);
        for (int n = 0; n < 4; n++) {
            x = program(NULL, 0, END, 0, THROW, 0);
            for (int h = 0; h < 4; h++) {
                x.handler(1, 2, h == n ? 3 : 2, 0);
            }
            dueFault("HANDLER " + n + " of four", x, 1, 1);
        }
    }

    // ---- FAULT 2

    @Sentence(of = "Promise 6, part 3", says = "2 ways come there with PILES of unlike sizes")
    static void waysComeWithUnlikeSizes() {
        dueFault("IF over an INT", program(INT, 0, IF, 3, INT, 0, END, 0), 2, 3);
        dueFault("at the beginning", program(INT, 0, GO, 0), 2, 0);
        dueFault("back, with fewer", program(INT, 0, INT, 0, POP, 0, GO, 2), 2, 2);
        dueFault("a LONG counts as two", program(INT, 0, IF, 4, LONG, 0, GO, 5, INT, 0, END, 0), 2, 5);
        dueFine("a LONG and two INTS", program(INT, 0, IF, 4, LONG, 0, GO, 6, INT, 0, INT, 0, END, 0), 2);
        dueFine("the same size", program(INT, 0, IF, 4, NULL, 0, GO, 5, INT, 0, END, 0), 2);
    }

    @Sentence(of = "Promise 6, part 3", says = "2 ways come there with PILES of unlike sizes")
    static void aHandlerComesWithOne() {
        FrameWriter x = program(GO, 1, END, 0);
        x.handler(0, 1, 1, 0);
        dueFault("none and one", x, 2, 1);
        x = program(INT, 0, GO, 2, END, 0);
        x.handler(0, 1, 2, 0);
        dueFine("one and one", x, 1);
        x = program(LONG, 0, GO, 2, END, 0);
        x.handler(0, 1, 2, 0);
        dueFault("two and one", x, 2, 2);
        x = program(END, 0);
        x.handler(0, 1, 0, 0);
        dueFault("of 0 at 0", x, 2, 0);
    }

    @Sentence(of = "Promise 6, part 3", says = "2 ways come there with PILES of unlike sizes")
    static void waysOfUnlikeSizesGoOn() {
        dueFault("to a lesser one", program(INT, 0, IF, 6, INT, 0, GO, 6, END, 0, END, 0, GO, 4), 2, 4);
        dueFault("the other way round", program(INT, 0, IF, 5, GO, 7, END, 0, END, 0, INT, 0, GO, 7, GO, 3), 2, 3);
        // At 8 the way without a PILE ends; the one with an INT goes on to 1, where it has too few.
        dueFault("the higher one", program(GO, 4, POP, 0, END, 0, END, 0, INT, 0, IF, 8, INT, 0, GO, 8, POP, 0, GO, 1), 3, 1);
        dueFault("the other first", program(GO, 4, POP, 0, END, 0, END, 0, INT, 0, IF, 7, GO, 8, INT, 0, POP, 0, GO, 1), 3, 1);
    }

    // ---- FAULT 3

    @Sentence(of = "Promise 6, part 3", says = "3 THE PILE would have fewer than 0, or more than six")
    static void eachOpOnEachSize() {
        for (int op = 0; op <= 20; op++) {
            for (int size = 0; size <= 6; size++) {
                FrameWriter x = withInts(size);
                x.op(op, op >= IF && op <= GO ? size + 1 : 0);
                x.op(END, 0);
                int answer = x.make();
                if (size < NEEDS[op] || size - NEEDS[op] + LEAVES[op] > 6) {
                    due("OP " + op + " on " + size, answer, -10 - size);
                    due("OP " + op + " on " + size + ": fault()", x.fault(), 3);
                } else {
                    due("OP " + op + " on " + size + " is fine by its size", answer >= 0 || x.fault() == 4 ? 0 : x.fault(), 0);
                }
            }
        }
    }

    @Sentence(of = "Promise 6, part 3", says = "THE PILE would have fewer than 0 .. By sizes alone, KINDS not looked at")
    static void eachOpLeavesItsSize() {
        for (int op = 0; op < 19; op++) {
            int size = NEEDS[op];
            for (int pops = 0; pops <= LEAVES[op] + 1; pops++) {
                FrameWriter x = withInts(size);
                x.op(op, op >= IF && op <= GO ? size + 1 : 0);
                for (int n = 0; n < pops; n++) {
                    x.op(POP, 0);
                }
                x.op(END, 0);
                int answer = x.make();
                String what = pops + " POPS behind OP " + op;
                if (pops > LEAVES[op]) {
                    due(what, answer, -10 - size - pops);
                    due(what + ": fault()", x.fault(), 3);
                } else {
                    due(what + " are fine by their size", answer >= 0 || x.fault() == 4 ? 0 : x.fault(), 0);
                }
            }
        }
    }

    @Sentence(of = "Promise 6, part 2", says = "THE PILE has six at most")
    static void sixAreTheMost() {
        dueFine("three LONGS", program(LONG, 0, LONG, 0, LONG, 0, END, 0), 0);
        dueFault("and an INT", program(LONG, 0, LONG, 0, LONG, 0, INT, 0, END, 0), 3, 3);
        dueFault("a LONG on five", program(LONG, 0, LONG, 0, INT, 0, LONG, 0, END, 0), 3, 3);
        dueFine("an INT on five", program(LONG, 0, LONG, 0, INT, 0, INT, 0, END, 0), 0);
        FrameWriter x = program(LONG, 0, LONG, 0, INT, 0, INT, 0, ADD, 0, DUP, 0, IF, 7, END, 0);
        dueFine("down and up again", x, 1);
        due("the sixth place", x.state(6, 13), 1);
    }

    @Sentence(of = "Promise 6, part 3", says = "(a way ends there, but for HANDLERS)")
    static void aWayEndsWhereThePileIsWrong() {
        dueFault("it goes on to no lesser one", program(GO, 3, GO, 29, END, 0, POP, 0, GO, 1), 3, 3);
        dueFault("nor by its a", program(GO, 3, GO, 29, END, 0, IF, 1, END, 0), 3, 3);
        dueFault("nor to where none is", program(POP, 0), 3, 0);
        dueFault("nor by its a to where none is", program(IF, 29, END, 0), 3, 0);
        dueFault("nor with too many", program(LONG, 0, LONG, 0, LONG, 0, INT, 0), 3, 3);
        dueFault("nor with six", program(LONG, 0, LONG, 0, INT, 0, INT, 0, GO, 6, END, 0, NULL, 0, GO, 5), 3, 6);
    }

    @Sentence(of = "Promise 6, part 3", says = "(a way ends there, but for HANDLERS)")
    static void aHandlerIsComeToWhereThePileIsWrong() {
        FrameWriter x = program(GO, 3, GO, 29, END, 0, POP, 0, END, 0);
        x.handler(3, 4, 1, 0);
        dueFault("a lesser one behind it", x, 1, 1);
        x = program(GO, 3, POP2, 0, END, 0, POP, 0, END, 0);
        x.handler(3, 4, 1, 0);
        dueFault("with just one on THE PILE", x, 3, 1);
        x = program(POP, 0, END, 0);
        x.handler(0, 1, 29, 0);
        dueFault("it begins where none is: of one the least number", x, 1, 0);
    }

    // ---- which FAULT is told

    @Sentence(of = "Promise 6, part 3", says = "By sizes alone, KINDS not looked at")
    static void sizesAreLookedAtFirst() {
        dueFault("3 behind a KIND", program(NULL, 0, IF, 2, POP, 0, END, 0), 3, 2);
        dueFault("1 behind a KIND", program(NULL, 0, IF, 2, GO, 9), 1, 2);
        dueFault("2 behind a KIND", program(NULL, 0, IF, 3, INT, 0, END, 0), 2, 3);
        dueFault("without them", program(NULL, 0, IF, 2, END, 0), 4, 1);
        dueFault("HALVES are places as others are", program(LONG, 0, POP, 0, POP, 0, POP, 0, END, 0), 3, 3);
    }

    @Sentence(of = "Promise 6, part 3", says = "the least INSTRUCTION of these")
    static void theLeastInstructionIsTold() {
        dueFault("3 ahead of 1", program(INT, 0, IF, 3, POP, 0, GO, 9), 3, 2);
        dueFault("1 ahead of 3", program(INT, 0, IF, 9, POP, 0, END, 0), 1, 1);
        dueFault("2 ahead of 1", program(INT, 0, IF, 3, INT, 0, INT, 0, GO, 9), 2, 3);
        dueFault("3 ahead of 2", program(INT, 0, IF, 4, POP, 0, END, 0, INT, 0, GO, 4), 3, 2);
        dueFault("2 where they come, not from where", program(INT, 0, IF, 5, END, 0, END, 0, END, 0, INT, 0, GO, 2), 2, 2);
        dueFault("a lesser one on a later way", program(GO, 3, POP, 0, END, 0, INT, 0, IF, 1, POP, 0, END, 0), 3, 1);
    }

    @Sentence(of = "Promise 6, part 3", says = "of one the least number")
    static void ofOneTheLeastNumberIsTold() {
        FrameWriter x = program(INT, 0, IF, 3, INT, 0, GO, 9);
        dueFault("1 of 1, 2", x, 1, 3);
        x = program(INT, 0, IF, 3, INT, 0, POP, 0, END, 0);
        dueFault("2 of 2, 3", x, 2, 3);
        x = program(INT, 0, IF, 3, INT, 0, POP, 0);
        dueFault("1 of 1, 2, 3", x, 1, 3);
        x = program(POP, 0, END, 0);
        x.handler(0, 1, 2, 0);
        dueFault("1 of 1, 3", x, 1, 0);
    }

    @Sentence(of = "Promise 6, part 3", says = "what a way comes to is REACHED")
    static void whatIsNotReachedHasNoFault() {
        dueFine("1", program(END, 0, GO, 29), 0);
        dueFine("3", program(END, 0, POP, 0, END, 0), 0);
        dueFine("2", program(END, 0, INT, 0, GO, 1), 0);
        dueFine("4", program(END, 0, LOAD, 0, POP, 0, END, 0), 0);
        FrameWriter x = program(GO, 2, INT, 0, END, 0);
        x.handler(1, 2, 2, 0);
        dueFine("2 by a HANDLER", x, 1);
    }

    // ---- STATES

    @Sentence(of = "Promise 8, part 3", says = "the LOCALS and THE PILE that all ways bring, JOINED place by place where they meet")
    static void statesAreJoinedPlaceByPlace() {
        FrameWriter x = withLocals(0, 102, 1, 2, 3, 105, 4, 1, 5, 104);
        extend(x, INT, 0, IF, 12, NULL, 0, CAST, 3, STORE, 0, INT, 0, STORE, 2, NULL, 0, STORE, 3, NULL, 0, CAST, 5, STORE, 5, END, 0);
        dueFine("LOCALS", x, 1);
        dueState("LOCALS", x, 12, 101, 0, 0, 105, 1, 100);
        x = extend(withTypes(), INT, 0, IF, 8, LONG, 0, NULL, 0, CAST, 2, INT, 0, GO, 14, END, 0);
        extend(x, LONG, 0, NULL, 0, CAST, 5, NULL, 0, GO, 14, END, 0, END, 0);
        dueFine("THE PILE", x, 2);
        duePile("THE PILE", x, 14, 2, 3, 101, 0);
    }

    @Sentence(of = "Promise 8, part 3", says = "JOINED place by place where they meet")
    static void longsThatMeetAcrossAreTop() {
        FrameWriter x = withLocals(0, 2, 2, 2);
        extend(x, INT, 0, IF, 4, LONG, 0, STORE2, 1, END, 0);
        dueFine("LOCALS", x, 1);
        dueState("LOCALS", x, 4);
        x = program(INT, 0, IF, 5, INT, 0, LONG, 0, GO, 7, LONG, 0, INT, 0, END, 0);
        dueFine("THE PILE", x, 2);
        duePile("THE PILE", x, 7, 0, 0, 0);
    }

    @Sentence(of = "Promise 8, part 3", says = "of each that is REACHED the LOCALS and THE PILE that all ways bring")
    static void threeWaysMeet() {
        FrameWriter x = withLocals(0, 4, 1, 4, 2, 4);
        extend(x, INT, 0, IF, 11, NULL, 0, CAST, 2, STORE, 0, INT, 0, IF, 11, NULL, 0, CAST, 5, STORE, 0, GO, 11, END, 0);
        dueFine("three", x, 1);
        dueState("of NULL, 2 and 5", x, 11, 101, 4, 4);
        FrameWriter y = withLocals(0, 4);
        extend(y, NULL, 0, POP, 0, END, 0, STORE, 1, END, 0);
        y.handler(0, 1, 3, 2);
        y.handler(1, 2, 3, 3);
        y.handler(2, 3, 3, 5);
        dueFine("by HANDLERS", y, 1);
        dueState("by HANDLERS", y, 3, 4, 0, 0, 0, 0, 0, 0, 0, 101);
    }

    @Sentence(of = "Promise 8, part 3", says = "each INSTRUCTION works on its STATE, as it is JOINED")
    static void instructionsWorkOnWhatIsJoined() {
        FrameWriter x = withLocals(0, 4);
        extend(x, LOAD, 0, STORE, 1, LOAD, 1, STORE, 2, NULL, 0, CAST, 5, STORE, 0, INT, 0, IF, 0, END, 0);
        dueFine("a loop", x, 1);
        dueState("at its head", x, 0, 105);
        dueState("copied", x, 9, 105, 105, 105);
        x = withLocals(0, 102);
        extend(x, LOAD, 0, STORE, 1, NULL, 0, CAST, 5, STORE, 0, INT, 0, IF, 0, LOAD, 1, USE, 1, LOAD, 1, USE, 2, END, 0);
        dueFault("what came first is not enough", x, 4, 10);
    }

    @Sentence(of = "Promise 8, part 3", says = "each INSTRUCTION works on its STATE, as it is JOINED")
    static void aChangeGoesRoundManyTimes() {
        FrameWriter x = withLocals(0, 105, 1, 4, 2, 4, 3, 4, 4, 4, 5, 4, 6, 4, 7, 4);
        extend(x, LOAD, 6, STORE, 7, LOAD, 5, STORE, 6, LOAD, 4, STORE, 5, LOAD, 3, STORE, 4, LOAD, 2, STORE, 3);
        extend(x, LOAD, 1, STORE, 2, LOAD, 0, STORE, 1, INT, 0, IF, 0, NULL, 0, CAST, 2, STORE, 0, INT, 0, IF, 0, END, 0);
        dueFine("each round brings it one LOCAL on", x, 1);
        dueState("all are the same", x, 0, 101, 101, 101, 101, 101, 101, 101, 101);
    }

    @Sentence(of = "Promise 6, part 3", says = "(Where an INSTRUCTION finds what it does not want, all places are TOP behind it, THE PILE as high as else.)")
    static void allIsTopBehindWhatIsNotWanted() {
        FrameWriter x = withLocals(0, 1, 7, 1);
        extend(x, GO, 4, LOAD, 7, POP, 0, END, 0, NULL, 0, IF, 1, END, 0);
        dueFault("LOCALS, where its a is a lesser one", x, 4, 1);
        for (int place = 0; place < 8; place++) {
            x = extend(withLocals(place, 1), GO, 4, LOAD, place, POP, 0, END, 0, NULL, 0, IF, 1, END, 0);
            dueFault("LOCAL " + place, x, 4, 1);
            x = extend(withLocals(place, 1), GO, 4, LOAD, place, POP, 0, END, 0, INT, 0, IF, 1, END, 0);
            dueFine("LOCAL " + place + " behind what is wanted", x, 2);
        }
        x = program(INT, 0, NULL, 0, GO, 5, POP, 0, END, 0, IF, 3, END, 0);
        dueFault("what is left on THE PILE", x, 4, 3);
        x = program(GO, 3, POP, 0, END, 0, NULL, 0, CAST, 0, MAKE, 0, INT, 0, GO, 1);
        dueFault("what comes later is as it is", x, 4, 5);
        x = program(GO, 4, POP, 0, GO, 3, END, 0, INT, 0, NULL, 0, ADD, 0, GO, 1);
        dueFault("what else it would have brought", x, 4, 1);
    }

    @Sentence(of = "Promise 6, part 3", says = "all places are TOP behind it, THE PILE as high as else")
    static void thePileIsAsHighBehindWhatIsNotWanted() {
        FrameWriter x = program(GO, 3, POP, 0, END, 0, LONG, 0, LONG, 0, LONG, 0, POP, 0, INT, 0, GO, 1);
        dueFault("not higher: an INT has its place upon it", x, 4, 6);
        x = program(INT, 0, IF, 7, NULL, 0, INT, 0, GO, 5, POP, 0, END, 0, INT, 0, CAST, 0, INT, 0, GO, 5);
        dueFault("not lower: INT meets INT at 5", x, 4, 8);
        x = program(INT, 0, IF, 7, NULL, 0, NULL, 0, INT, 0, POP, 0, END, 0, LONG, 0, POP, 0, INT, 0, POP, 0, LONG, 0, POP2, 0);
        extend(x, NULL, 0, INT, 0, GO, 5);
        dueFault("likewise where one goes", x, 4, 8);
        x = program(GO, 2, THROW, 0, NULL, 0, IF, 4, INT, 0, INT, 0, INT, 0, INT, 0, INT, 0, NULL, 0, GO, 1);
        dueFault("nothing is left: six have their places", x, 4, 3);
    }

    @Sentence(of = "Promise 6, part 2", says = "with LOCALS as they are ahead of it")
    static void theHandlerOfWhatIsNotWantedHasLocalsAsAhead() {
        FrameWriter x = withLocals(0, 1);
        extend(x, GO, 4, STORE, 1, LOAD, 0, END, 0, NULL, 0, IF, 6, END, 0);
        x.handler(5, 6, 1, 0);
        dueFault("its HANDLER is not spoilt", x, 4, 5);
        x = withLocals(1, 1);
        extend(x, GO, 4, STORE, 1, LOAD, 0, END, 0, NULL, 0, IF, 6, END, 0);
        x.handler(5, 6, 1, 0);
        dueFault("but by its LOCALS", x, 4, 2);
    }

    @Sentence(of = "Promise 6, part 3", says = "Then 4: the least INSTRUCTION whose STATE is not as its OP wants.")
    static void theLeastThatIsNotAsWantedIsTold() {
        dueFault("the first of two", program(NULL, 0, IF, 2, INT, 0, THROW, 0), 4, 1);
        dueFault("a lesser one that is come to later", program(GO, 3, LOAD, 0, THROW, 0, LONG, 0, POP, 0, GO, 6, POP, 0, GO, 1), 4, 1);
        FrameWriter x = thirty(LOAD, 0);
        dueFault("29 goes on to where none is", x, 1, 29);
        x = new FrameWriter();
        x.op(INT, 0);
        for (int at = 1; at < 29; at++) {
            x.op(GO, at + 1);
        }
        x.op(THROW, 0);
        dueFault("29", x, 4, 29);
    }

    @Sentence(of = "Promise 6, part 3", says = "Then 4: the least INSTRUCTION whose STATE is not as its OP wants.")
    static void whatFitsFirstMayNotFitWhenJoined() {
        FrameWriter x = withLocals(0, 1);
        extend(x, LOAD, 0, POP, 0, NULL, 0, STORE, 0, GO, 0);
        dueFault("LOAD of TOP in the second round", x, 4, 0);
        x = withLocals(0, 102);
        extend(x, LOAD, 0, USE, 2, NULL, 0, CAST, 3, STORE, 0, GO, 0);
        dueFault("USE of the PARENT in the second round", x, 4, 1);
    }

    // ---- Promise 6: make

    @Sentence(of = "Promise 6", says = "STATES, FRAMES are worked out: how many FRAMES")
    static void makeTellsHowManyFrames() {
        due("none", program(END, 0).make(), 0);
        due("one", program(GO, 1, END, 0).make(), 1);
        due("29", thirty(END, 0).make(), 29);
        FrameWriter x = new FrameWriter();
        for (int at = 0; at < 30; at++) {
            x.op(GO, (at + 1) % 30);
        }
        due("all thirty", x.make(), 30);
        due("told(3)", x.told(3), 30);
        due("REACHED", x.told(4), 30);
    }

    @Sentence(of = "Promise 6", says = "-10 less the place of a FAULT")
    static void makeTellsThePlaceOfAFault() {
        due("at 0", program(POP, 0, END, 0).make(), -10);
        due("at 1", program(INT, 0, ADD, 0, END, 0).make(), -11);
        due("at 29", thirty(NULL, 0).make(), -39);
    }

    @Sentence(of = "Promise 6", says = "(no STATES, FRAMES then)")
    static void aFaultLeavesNoStatesAndFrames() {
        FrameWriter x = program(INT, 0, IF, 0, END, 0);
        dueFine("fine", x, 1);
        x.handler(2, 3, 3, 0);
        dueFault("1", x, 1, 2);
        x.op(THROW, 0);
        dueFine("fine again", x, 2);
        due("FRAME 1", x.frame(1), 3);
        x.handler(0, 1, 2, 0);
        dueFault("2", x, 2, 2);
        x = program(GO, 1, NULL, 0, IF, 1, END, 0);
        dueFault("4", x, 4, 2);
    }

    @Sentence(of = "Promise 6", says = "STATES, FRAMES are worked out")
    static void makeAgainIsTheSame() {
        FrameWriter x = withLocals(0, 1, 2, 2);
        extend(x, INT, 0, IF, 3, NULL, 0, END, 0, THROW, 0);
        x.handler(1, 2, 4, 5);
        dueFault("unlike sizes", x, 2, 3);
        dueFault("once more", x, 2, 3);
        x = withLocals(0, 1, 2, 2);
        extend(x, INT, 0, IF, 4, NULL, 0, STORE, 0, END, 0, THROW, 0);
        x.handler(1, 2, 5, 5);
        dueFine("fine", x, 2);
        String before = all(x);
        dueFine("once more", x, 2);
        if (!all(x).equals(before)) {
            fail("made again: " + all(x) + ", due is " + before);
        }
    }

    @Sentence(of = "Promise 6", says = "STATES, FRAMES are worked out")
    static void makeForgetsWhatWasMadeBefore() {
        FrameWriter x = program(INT, 0, IF, 4, NULL, 0, STORE, 0, GO, 5);
        dueFault("5 is not there", x, 1, 4);
        extend(x, END, 0);
        dueFine("5 is there", x, 2);
        dueState("5", x, 5);
        x.local(0, 4);
        dueFine("told anew", x, 2);
        dueState("5", x, 5, 4);
        x.local(0, 0);
        dueFine("told anew again", x, 2);
        dueState("5", x, 5);
    }

    // ---- Promise 7: fault

    @Sentence(of = "Promise 7", says = "0: it had none, or there was none")
    static void noFault() {
        FrameWriter x = new FrameWriter();
        due("no make() yet", x.fault(), 0);
        x.op(POP, 0);
        due("still none", x.fault(), 0);
        x = program(END, 0);
        x.make();
        due("it had none", x.fault(), 0);
    }

    @Sentence(of = "Promise 7", says = "The FAULT of the latest make(), 1 to 4")
    static void theFaultOfTheLatestMake() {
        FrameWriter x = new FrameWriter();
        dueFault("nothing there", x, 1, 0);
        extend(x, INT, 0);
        due("till the next make()", x.fault(), 1);
        extend(x, IF, 3, NULL, 0, IF, 0);
        due("till the next make() still", x.fault(), 1);
        x = program(INT, 0, IF, 3, INT, 0, END, 0);
        dueFault("2", x, 2, 3);
        x = program(POP, 0, END, 0);
        dueFault("3", x, 3, 0);
        x = program(LOAD, 0, END, 0);
        dueFault("4", x, 4, 0);
        x.local(0, 1);
        due("till the next make()", x.fault(), 4);
        dueFine("none any more", x, 0);
        x.local(0, 2);
        due("none till the next make()", x.fault(), 0);
        dueFault("4 again", x, 4, 0);
    }

    // ---- Promise 8: state

    @Sentence(of = "Promise 8", says = "LOCALS 0 .. 7, THE PILE from 8 on")
    static void placesOfAState() {
        FrameWriter x = withLocals(0, 1, 1, 2, 3, 100, 4, 101, 5, 102, 6, 104, 7, 4);
        extend(x, NULL, 0, INT, 0, LONG, 0, BEGIN, 0, INT, 0, END, 0);
        dueFine("all places", x, 0);
        int[] want = {1, 2, 3, 100, 101, 102, 104, 4, 4, 1, 2, 3, 203, 1};
        for (int place = 0; place < 14; place++) {
            due("state(5, " + place + ")", x.state(5, place), want[place]);
        }
    }

    @Sentence(of = "Promise 8", says = "NONE: there are no STATES")
    static void noStates() {
        FrameWriter x = new FrameWriter();
        due("new", x.state(0, 0), NONE);
        x.op(END, 0);
        due("not made", x.state(0, 0), NONE);
        due("not made, the last place", x.state(0, 13), NONE);
        x.make();
        due("made", x.state(0, 0), 0);
        x.local(0, 1);
        due("ended", x.state(0, 0), NONE);
    }

    @Sentence(of = "Promise 8", says = "NONE: .. it is not REACHED")
    static void notReached() {
        FrameWriter x = program(GO, 2, END, 0, END, 0);
        dueFine("GO over one", x, 1);
        int[] none = {1, 3, 4, 29, 30, 31, -1, LEAST, MOST};
        for (int at : none) {
            due("state(" + at + ", 0)", x.state(at, 0), NONE);
            due("state(" + at + ", 7)", x.state(at, 7), NONE);
            due("state(" + at + ", 13)", x.state(at, 13), NONE);
        }
        due("beside them", x.state(2, 7), 0);
    }

    @Sentence(of = "Promise 8", says = "NONE: .. THE PILE is not so high")
    static void thePileIsNotSoHigh() {
        for (int size = 0; size <= 6; size++) {
            FrameWriter x = extend(withInts(size), END, 0);
            dueFine(size + " places", x, 0);
            for (int place = 8; place < 14; place++) {
                due("place " + place + " of " + size, x.state(size, place), place < 8 + size ? 1 : NONE);
            }
        }
        FrameWriter x = program(INT, 0, INT, 0, POP, 0, POP, 0, END, 0);
        dueFine("down again", x, 0);
        due("nothing is left", x.state(4, 8), NONE);
        due("one is left", x.state(3, 8), 1);
        due("not two", x.state(3, 9), NONE);
    }

    @Sentence(of = "Promise 8", says = "BAD: the place is not 0 .. 13.")
    static void placesThatAreNone() {
        FrameWriter x = program(LONG, 0, LONG, 0, LONG, 0, END, 0);
        dueFine("three LONGS", x, 0);
        due("the first place", x.state(3, 0), 0);
        due("the last place", x.state(3, 13), 3);
        int[] bad = {-1, 14, 15, -14, LEAST, MOST, LEAST + 1};
        for (int place : bad) {
            due("state(3, " + place + ")", x.state(3, place), BAD);
        }
    }

    public static void main(String[] args) {
        runSentences(WaySentencesTest.class);
    }
}
