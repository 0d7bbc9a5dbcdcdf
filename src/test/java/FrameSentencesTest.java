/** FRAMES and how they are WRITTEN: the document's part 3, Promises 9, 10, 11 and 16, sentence by sentence. */
final class FrameSentencesTest extends Checks {

    // ---- which STATES are FRAMES

    @Sentence(of = "Promise 9, part 3", says = "FRAMES, if there is no FAULT")
    static void noFramesWithAFault() {
        FrameWriter x = program(GO, 1, NULL, 0, IF, 1, END, 0);
        dueFault("a FAULT", x, 4, 2);
        due("frame(0)", x.frame(0), NONE);
        due("told(3)", x.told(3), 0);
    }

    @Sentence(of = "Promise 9, part 3", says = "that an IF, SAME, GO (that is REACHED) tells as its a")
    static void whatAJumpTellsHasAFrame() {
        dueFrames("IF", program(INT, 0, IF, 3, END, 0, END, 0), 3);
        dueFrames("SAME", program(NULL, 0, NULL, 0, SAME, 4, END, 0, END, 0), 4);
        dueFrames("GO", program(GO, 2, END, 0, END, 0), 2);
        dueFrames("to the next one", program(INT, 0, IF, 2, END, 0), 2);
        dueFrames("to 0", program(GO, 0), 0);
        dueFrames("none", program(INT, 0, STORE, 0, END, 0));
        dueFrames("other numbers are no places", program(INT, 3, DUP, 3, ADD, 3, STORE, 3, LONG, 3, POP2, 3, END, 3));
    }

    @Sentence(of = "Promise 9, part 3", says = "an IF, SAME, GO (that is REACHED)")
    static void aJumpThatIsNotReachedTellsNothing() {
        dueFrames("GO", program(GO, 2, GO, 3, INT, 0, STORE, 0, END, 0), 2);
        dueFrames("IF", program(END, 0, INT, 0, IF, 0, END, 0));
        dueFrames("SAME", program(END, 0, NULL, 0, NULL, 0, SAME, 0, END, 0));
    }

    @Sentence(of = "Promise 9, part 3", says = "or at which a HANDLER begins (one of whose INSTRUCTIONS is REACHED)")
    static void whereAHandlerBeginsIsAFrame() {
        FrameWriter x = program(INT, 0, END, 0, THROW, 0);
        x.handler(0, 1, 2, 0);
        dueFrames("of one", x, 2);
        x = program(INT, 0, END, 0, THROW, 0);
        x.handler(1, 30, 2, 0);
        dueFrames("of the last that is REACHED", x, 2);
        x = program(GO, 2, INT, 0, NULL, 0, THROW, 0);
        x.handler(1, 2, 3, 0);
        dueFrames("of none that is REACHED, though its beginning is", x, 2);
        x = program(GO, 2, INT, 0, NULL, 0, THROW, 0);
        x.handler(1, 3, 3, 0);
        dueFrames("of one that is REACHED", x, 2, 3);
        x = program(NULL, 0, THROW, 0);
        x.handler(2, 30, 1, 0);
        dueFrames("of none that is there", x);
    }

    @Sentence(of = "Promise 9, part 3", says = "by their numbers")
    static void framesAreInTheOrderOfTheirNumbers() {
        FrameWriter x = program(GO, 5, END, 0, GO, 1, THROW, 0, GO, 2, INT, 0, IF, 4, GO, 8, GO, 1);
        x.handler(5, 6, 3, 0);
        dueFrames("by numbers, not by ways", x, 1, 2, 3, 4, 5, 8);
    }

    @Sentence(of = "Promise 9, part 3", says = "the STATES of all that are REACHED and that an IF, SAME, GO (that is REACHED) tells as its a, or")
    static void eachPlaceHasOneFrame() {
        FrameWriter x = program(INT, 0, IF, 7, INT, 0, IF, 7, NULL, 0, CAST, 0, THROW, 0, END, 0);
        dueFrames("two tell it", x, 7);
        x = program(NULL, 0, INT, 0, IF, 3, THROW, 0);
        x.handler(0, 2, 3, 0);
        x.handler(1, 3, 3, 0);
        dueFrames("all tell it", x, 3);
    }

    @Sentence(of = "Promise 9", says = "The INSTRUCTION of FRAME k; NONE.")
    static void framesThatAreNone() {
        FrameWriter x = program(INT, 0, IF, 3, GO, 4, GO, 4, END, 0);
        due("ahead of make()", x.frame(0), NONE);
        dueFrames("two", x, 3, 4);
        int[] none = {2, 3, 4, 29, 30, 31, -1, LEAST, MOST};
        for (int k : none) {
            due("frame(" + k + ")", x.frame(k), NONE);
        }
        x.local(0, 0);
        due("ended", x.frame(0), NONE);
    }

    @Sentence(of = "Promise 9, part 2", says = "INSTRUCTIONS 0, 1, .. (30 at most)")
    static void thirtyFrames() {
        FrameWriter x = new FrameWriter();
        for (int at = 0; at < 30; at++) {
            x.op(GO, (at + 7) % 30);
        }
        due("make()", x.make(), 30);
        for (int k = 0; k < 30; k++) {
            due("frame(" + k + ")", x.frame(k), k);
        }
        due("frame(30)", x.frame(30), NONE);
        due("each by one byte", x.packed(), 30);
        for (int i = 0; i < 30; i++) {
            due("out(" + i + ")", x.out(i), 0);
        }
    }

    // ---- how they are WRITTEN

    private static void dueWritten(String what, FrameWriter x, int... want) {
        due(what + ": made", x.make() >= 0 ? 0 : x.make(), 0);
        due(what + ": packed()", x.packed(), want.length);
        dueBytes(what, x, want);
        dueThrow(what, x, want.length);
    }

    @Sentence(of = "Promise 11, part 3", says = "with the same ENTRIES of LOCALS and no PILE: DELTA")
    static void theSameLocalsAndNoPile() {
        dueWritten("no LOCALS", program(GO, 1, END, 0), 1);
        dueWritten("some LOCALS", extend(withLocals(0, 1, 1, 2, 7, 105), GO, 1, END, 0), 1);
        dueWritten("another one where they are the same", extend(withLocals(0, 1), INT, 0, STORE, 0, GO, 3, END, 0), 3);
    }

    @Sentence(of = "Promise 11, part 3", says = "DELTA: its number, less that of the one before, less 1.")
    static void deltasFromTheOneBefore() {
        dueWritten("one behind the other", program(GO, 1, GO, 2, GO, 3, END, 0), 1, 0, 0);
        dueWritten("with one between", program(GO, 2, END, 0, GO, 4, END, 0, END, 0), 2, 1);
        FrameWriter x = program(GO, 29);
        for (int at = 1; at < 30; at++) {
            x.op(END, 0);
        }
        dueWritten("the widest", x, 29);
        x = program(NULL, 0, GO, 29);
        for (int at = 2; at < 30; at++) {
            x.op(END, 0);
        }
        dueWritten("the widest with a PILE", x, 93, 4);
        x = program(INT, 0, STORE, 0, GO, 29);
        for (int at = 3; at < 30; at++) {
            x.op(END, 0);
        }
        dueWritten("the widest with one more", x, 252, 29, 1);
        x = program(INT, 0, IF, 0, GO, 29);
        for (int at = 3; at < 30; at++) {
            x.op(END, 0);
        }
        dueWritten("from 0 to 29", x, 0, 28);
    }

    @Sentence(of = "Promise 11, part 3", says = "(the first: the beginning, as if it were at -1, with its LOCALS)")
    static void theFirstIsByTheBeginning() {
        dueWritten("at 0", program(INT, 0, IF, 0, END, 0), 0);
        dueWritten("at 0 with LOCALS", extend(withLocals(0, 1, 3, 4), INT, 0, IF, 0, END, 0), 0);
        dueWritten("less than the beginning", extend(withLocals(0, 1, 1, 1), NULL, 0, STORE, 1, GO, 0), 250, 0);
        dueWritten("not by what 0 came to be", extend(withLocals(0, 105), NULL, 0, CAST, 2, STORE, 0, GO, 0), 255, 0, 1, 7, 1, 0);
    }

    @Sentence(of = "Promise 11, part 3", says = "WRITTEN they are one behind the other, each by the one before")
    static void eachIsByTheOneBefore() {
        FrameWriter x = program(INT, 0, STORE, 0, GO, 3, INT, 0, STORE, 1, GO, 6, NULL, 0, GO, 8, STORE, 0, GO, 10, END, 0);
        dueWritten("LOCALS of the one before, its PILE not", x, 252, 3, 1, 252, 2, 1, 65, 4, 255, 1, 2, 4, 1, 0);
    }

    @Sentence(of = "Promise 11, part 3", says = "ENTRIES are LOCALS without TOPS at the end")
    static void topsAtTheEndAreNoEntries() {
        dueWritten("TOPS at the end of all", extend(withLocals(0, 1), NULL, 0, STORE, 0, GO, 3, END, 0), 255, 3, 1, 4, 0);
        dueWritten("TOP between", program(INT, 0, STORE, 1, GO, 3, END, 0), 253, 3, 0, 1);
        dueWritten("TOPS alone", extend(withLocals(0, 1), NULL, 0, STORE, 0, GO, 0), 250, 0);
        dueWritten("no TOP at the end", extend(withLocals(4, 1), INT, 0, STORE, 7, GO, 3, END, 0), 254, 3, 0, 0, 1);
        dueWritten("TOPS ahead of what went are gone too", extend(withLocals(0, 1, 3, 1), NULL, 0, STORE, 3, GO, 0), 248, 0);
    }

    @Sentence(of = "Promise 11, part 3", says = "a LONG and its HALF as one")
    static void aLongIsOneEntry() {
        dueWritten("more", program(LONG, 0, STORE2, 0, GO, 3, END, 0), 252, 3, 2);
        dueWritten("two more", program(LONG, 0, STORE2, 0, LONG, 0, STORE2, 2, GO, 5, END, 0), 253, 5, 2, 2);
        dueWritten("at the end of all", extend(withLocals(3, 1), LONG, 0, STORE2, 6, GO, 3, END, 0), 254, 3, 0, 0, 2);
        dueWritten("ahead of others", extend(withLocals(0, 2, 2, 1), NULL, 0, STORE, 3, GO, 3, END, 0), 252, 3, 4);
        dueWritten("less", extend(withLocals(0, 2, 2, 2), NULL, 0, STORE, 2, GO, 0), 250, 0);
        dueWritten("two INTS are no LONG", extend(withLocals(0, 2), INT, 0, STORE, 0, INT, 0, STORE, 1, GO, 5, END, 0), 255, 5, 2, 1, 1, 0);
        dueWritten("all", extend(withLocals(0, 1), LONG, 0, STORE2, 0, LONG, 0, STORE2, 2, LONG, 0, STORE2, 4, LONG, 0, STORE2, 6, GO, 9,
            END, 0), 255, 9, 4, 2, 2, 2, 2, 0);
    }

    @Sentence(of = "Promise 11, part 3", says = "a LONG and its HALF as one")
    static void aPlaceThatWasALongIsTwoTops() {
        // The beginning has LONG, NULL; behind, LOCALS are TOP, TOP, NULL: three ENTRIES of other KINDS.
        dueWritten("a LONG that went", extend(withLocals(0, 2, 2, 4), INT, 0, STORE, 0, GO, 0), 255, 0, 3, 0, 0, 4, 0);
    }

    @Sentence(of = "Promise 11, part 3", says = "THE PILE's likewise (with all TOPS)")
    static void entriesOfThePile() {
        dueWritten("a LONG is one", program(LONG, 0, GO, 2, END, 0), 66, 2);
        dueWritten("a LONG and an INT are two", program(LONG, 0, INT, 0, GO, 3, END, 0), 255, 3, 0, 2, 2, 1);
        dueWritten("three LONGS", program(LONG, 0, LONG, 0, LONG, 0, GO, 4, END, 0), 255, 4, 0, 3, 2, 2, 2);
        dueWritten("TOP alone", program(INT, 0, IF, 4, NULL, 0, GO, 5, INT, 0, END, 0), 4, 64, 0);
        dueWritten("TOP on top", program(INT, 0, INT, 0, IF, 5, NULL, 0, GO, 6, INT, 0, END, 0), 69, 1, 255, 0, 0, 2, 1, 0);
        dueWritten("two TOPS", program(INT, 0, IF, 5, NULL, 0, NULL, 0, GO, 6, LONG, 0, END, 0), 5, 255, 0, 0, 2, 0, 0);
    }

    @Sentence(of = "Promise 11, part 3", says = "the same and one ENTRY on THE PILE: 64 + DELTA, that")
    static void theSameLocalsAndOneOnThePile() {
        dueWritten("INT", program(INT, 0, GO, 2, END, 0), 66, 1);
        dueWritten("NULL", program(NULL, 0, GO, 2, END, 0), 66, 4);
        dueWritten("a THING", extend(withLocals(0, 105), LOAD, 0, GO, 2, END, 0), 66, 7, 5);
        dueWritten("what is begun", program(BEGIN, 0, GO, 2, END, 0), 66, 8, 0);
        dueWritten("at the very next", program(INT, 0, GO, 2, GO, 3, END, 0), 66, 1, 64, 1);
        FrameWriter x = extend(withLocals(2, 1), INT, 0, END, 0, THROW, 0);
        x.handler(0, 2, 2, 3);
        dueWritten("a HANDLER's", x, 66, 7, 3);
        dueWritten("other LOCALS", program(INT, 0, STORE, 0, NULL, 0, GO, 4, END, 0), 255, 4, 1, 1, 1, 4);
    }

    @Sentence(of = "Promise 11, part 3", says = "without PILE, 1 to 3 ENTRIES less at the end, k: 251 - k, DELTA")
    static void entriesLessAtTheEnd() {
        for (int k = 1; k <= 4; k++) {
            FrameWriter x = withLocals(0, 2);
            for (int place = 2; place < 2 + k; place++) {
                x.local(place, 105);
            }
            // The way back brings INTS, so that all THINGS are TOP at 0.
            extend(x, INT, 0, STORE, 2, INT, 0, STORE, 3, INT, 0, STORE, 4, INT, 0, STORE, 5, GO, 0);
            if (k < 4) {
                dueWritten(k + " less", x, 251 - k, 0);
            } else {
                dueWritten("4 less", x, 255, 0, 1, 2, 0);
            }
        }
        dueWritten("all of three", extend(withLocals(2, 1), NULL, 0, STORE, 2, GO, 0), 248, 0);
        dueWritten("all of four", extend(withLocals(3, 1), NULL, 0, STORE, 3, GO, 0), 255, 0, 0, 0);
        dueWritten("one less, not at the end", extend(withLocals(0, 1, 1, 1), NULL, 0, STORE, 0, GO, 0), 255, 0, 2, 0, 1, 0);
        dueWritten("one less and another KIND", extend(withLocals(0, 105, 1, 1), NULL, 0, STORE, 1, NULL, 0, CAST, 2, STORE, 0, GO, 0),
            255, 0, 1, 7, 1, 0);
    }

    @Sentence(of = "Promise 11, part 3", says = "without PILE, 1 to 3 ENTRIES less at the end")
    static void entriesLessWithAPile() {
        FrameWriter x = withLocals(0, 1, 1, 1);
        extend(x, NULL, 0, STORE, 1, END, 0, THROW, 0);
        x.handler(0, 3, 3, 0);
        dueWritten("one less and one on THE PILE", x, 255, 3, 1, 1, 1, 7, 0);
        x = withLocals(0, 1);
        extend(x, NULL, 0, STORE, 0, END, 0, THROW, 0);
        x.handler(0, 3, 3, 0);
        dueWritten("none left and one on THE PILE", x, 255, 3, 0, 1, 7, 0);
    }

    @Sentence(of = "Promise 11, part 3", says = "1 to 3 more, k: 251 + k, DELTA, these")
    static void entriesMoreAtTheEnd() {
        dueWritten("1 more", program(INT, 0, STORE, 0, GO, 3, END, 0), 252, 3, 1);
        dueWritten("2 more", program(NULL, 0, STORE, 1, GO, 3, END, 0), 253, 3, 0, 4);
        dueWritten("3 more", program(NULL, 0, STORE, 2, GO, 3, END, 0), 254, 3, 0, 0, 4);
        dueWritten("4 more", program(NULL, 0, STORE, 3, GO, 3, END, 0), 255, 3, 4, 0, 0, 0, 4, 0);
        dueWritten("behind others", extend(withLocals(0, 2, 2, 105), BEGIN, 1, STORE, 3, LOAD, 2, STORE, 4, GO, 5, END, 0),
            253, 5, 8, 0, 7, 5);
        dueWritten("behind another KIND", extend(withLocals(0, 1), NULL, 0, STORE, 0, INT, 0, STORE, 1, GO, 5, END, 0),
            255, 5, 2, 4, 1, 0);
        dueWritten("with a PILE", program(INT, 0, STORE, 0, INT, 0, GO, 4, END, 0), 255, 4, 1, 1, 1, 1);
    }

    @Sentence(of = "Promise 11, part 3", says = "else: 255, DELTA, how many ENTRIES, these, how many on THE PILE, these")
    static void allIsWrittenElse() {
        dueWritten("no LOCALS, two on THE PILE", program(INT, 0, NULL, 0, GO, 3, END, 0), 255, 3, 0, 2, 1, 4);
        dueWritten("the same LOCALS, two on THE PILE", extend(withLocals(1, 105), INT, 0, NULL, 0, GO, 3, END, 0),
            255, 3, 2, 0, 7, 5, 2, 1, 4);
        dueWritten("other LOCALS, no PILE", extend(withLocals(0, 1), NULL, 0, STORE, 0, GO, 3, END, 0), 255, 3, 1, 4, 0);
        FrameWriter x = withLocals(0, 105, 1, 105, 2, 105, 3, 105, 4, 105, 5, 105, 6, 105, 7, 105);
        extend(x, LOAD, 0, LOAD, 0, LOAD, 0, LOAD, 0, LOAD, 0, LOAD, 0, GO, 7, END, 0);
        dueWritten("the longest", x, 255, 7, 8, 7, 5, 7, 5, 7, 5, 7, 5, 7, 5, 7, 5, 7, 5, 7, 5, 6, 7, 5, 7, 5, 7, 5, 7, 5, 7, 5, 7, 5);
    }

    @Sentence(of = "Promise 11, part 3", says = "The first that fits")
    static void theFirstFormThatFits() {
        dueWritten("the same ahead of all", extend(withLocals(0, 1), GO, 1, END, 0), 1);
        dueWritten("one on THE PILE ahead of all of it", extend(withLocals(0, 1), INT, 0, GO, 2, END, 0), 66, 1);
        dueWritten("less ahead of all of it", extend(withLocals(0, 1), NULL, 0, STORE, 0, GO, 0), 250, 0);
        dueWritten("more ahead of all of it", program(INT, 0, STORE, 0, GO, 3, END, 0), 252, 3, 1);
    }

    @Sentence(of = "Promise 11, part 3", says = "An ENTRY is a byte: its KIND below 100; or 7 and t, 8 and p.")
    static void bytesOfEntries() {
        FrameWriter x = withLocals(1, 1, 2, 2, 4, 4, 5, 100, 6, 105);
        extend(x, BEGIN, 1, STORE, 7, GO, 3, END, 0);
        dueWritten("more", x, 252, 3, 8, 0);
        x = withLocals(1, 1, 2, 2, 4, 4, 5, 100, 6, 105);
        extend(x, INT, 0, POP, 0, BEGIN, 1, STORE, 0, GO, 5, END, 0);
        dueWritten("all KINDS", x, 255, 5, 6, 8, 2, 1, 2, 4, 7, 0, 7, 5, 0);
        x = new FrameWriter();
        for (int t = 1; t <= 7; t++) {
            x.type(0, false);
        }
        x.local(0, 107);
        extend(x, LOAD, 0, GO, 2, END, 0);
        dueWritten("the last TYPE", x, 66, 7, 7);
        x = program(GO, 27);
        for (int at = 1; at < 27; at++) {
            x.op(END, 0);
        }
        extend(x, BEGIN, 0, GO, 29, END, 0);
        dueWritten("the last that begins ahead of a GO", x, 27, 65, 8, 27);
    }

    // ---- Promise 10: packed

    @Sentence(of = "Promise 10", says = "NONE: there are no FRAMES (0: they were made, and are none).")
    static void packedWithoutFrames() {
        FrameWriter x = program(END, 0);
        due("not made", x.packed(), NONE);
        x.make();
        due("made, and are none", x.packed(), 0);
        x.op(END, 0);
        due("ended", x.packed(), NONE);
        x = program(POP, 0, END, 0);
        x.make();
        due("a FAULT", x.packed(), NONE);
        due("new", new FrameWriter().packed(), NONE);
    }

    @Sentence(of = "Promise 10", says = "How many bytes the FRAMES are WRITTEN with")
    static void packedTellsHowMany() {
        FrameWriter x = program(GO, 1, END, 0);
        x.make();
        due("one", x.packed(), 1);
        x = withLocals(0, 105, 1, 105, 2, 105, 3, 105, 4, 105, 5, 105, 6, 105, 7, 105);
        extend(x, LOAD, 0, LOAD, 0, LOAD, 0, LOAD, 0, LOAD, 0, LOAD, 0);
        for (int at = 6; at < 29; at++) {
            x.op(GO, at + 1);
        }
        x.op(END, 0);
        due("make()", x.make(), 23);
        due("23 of the longest", x.packed(), 23 * 32);
        due("the first byte of the last", x.out(22 * 32), 255);
        due("the last byte", x.out(23 * 32 - 1), 5);
        dueThrow("behind the last", x, 23 * 32);
    }

    // ---- Promise 11: out

    @Sentence(of = "Promise 11", says = "ArrayIndexOutOfBoundsException: there is none.")
    static void bytesThatAreNone() {
        FrameWriter x = new FrameWriter();
        dueThrow("new", x, 0);
        extend(x, INT, 0, GO, 2, END, 0);
        dueThrow("not made", x, 0);
        dueWritten("made", x, 66, 1);
        int[] none = {-1, 2, 3, 959, 960, 961, LEAST, MOST};
        for (int i : none) {
            dueThrow("made", x, i);
        }
        due("the first", x.out(0), 66);
        due("the last", x.out(1), 1);
        x.type(0, false);
        dueThrow("ended", x, 0);
        x = program(END, 0);
        x.make();
        dueThrow("made, and are none", x, 0);
        dueThrow("made, and are none", x, -1);
        x = program(GO, 1, POP, 0, END, 0);
        x.make();
        dueThrow("a FAULT", x, 0);
    }

    @Sentence(of = "Promise 11, of all", says = "Refused calls change nothing.")
    static void bytesThatAreNoneChangeNothing() {
        FrameWriter x = program(INT, 0, GO, 2, END, 0);
        x.make();
        String before = all(x);
        dueThrow("behind the last", x, 2);
        dueThrow("ahead of the first", x, -1);
        if (!all(x).equals(before)) {
            fail("out() changed " + before + " to " + all(x));
        }
    }

    @Sentence(of = "Promise 11", says = "Byte i of these.")
    static void fewerBytesThanBefore() {
        FrameWriter x = withLocals(0, 1);
        extend(x, NULL, 0, STORE, 0, GO, 3, END, 0);
        dueWritten("all of it", x, 255, 3, 1, 4, 0);
        x.local(0, 4);
        dueWritten("the same now", x, 3);
        dueThrow("no byte is left", x, 1);
    }

    // ---- Promise 16: told

    @Sentence(of = "Promise 16", says = "0 TYPES, 1 INSTRUCTIONS, 2 HANDLERS")
    static void whatWasToldIsCounted() {
        FrameWriter x = new FrameWriter();
        for (int n = 1; n <= 7; n++) {
            x.type(0, n % 2 == 0);
            due("TYPES", x.told(0), 1 + n);
        }
        for (int n = 1; n <= 30; n++) {
            x.op(END, 0);
            due("INSTRUCTIONS", x.told(1), n);
        }
        for (int n = 1; n <= 4; n++) {
            x.handler(0, 1, 0, 0);
            due("HANDLERS", x.told(2), n);
        }
        x.type(0, false);
        x.op(END, 0);
        x.handler(0, 1, 0, 0);
        due("TYPES", x.told(0), 8);
        due("INSTRUCTIONS", x.told(1), 30);
        due("HANDLERS", x.told(2), 4);
    }

    @Sentence(of = "Promise 16", says = "3 FRAMES (0 without)")
    static void framesAreCounted() {
        FrameWriter x = program(INT, 0, IF, 3, GO, 4, GO, 4, END, 0);
        due("not made", x.told(3), 0);
        x.make();
        due("made", x.told(3), 2);
        x.local(0, 1);
        due("ended", x.told(3), 0);
        x.make();
        due("made again", x.told(3), 2);
        x.handler(0, 1, 29, 0);
        x.make();
        due("a FAULT", x.told(3), 0);
        x = program(END, 0);
        x.make();
        due("none", x.told(3), 0);
    }

    @Sentence(of = "Promise 16", says = "4 those that are REACHED (0 without STATES)")
    static void whatIsReachedIsCounted() {
        FrameWriter x = program(GO, 2, END, 0, INT, 0, END, 0, THROW, 0, END, 0);
        x.handler(3, 4, 4, 0);
        due("not made", x.told(4), 0);
        x.make();
        due("by a HANDLER too", x.told(4), 4);
        x.handler(1, 2, 29, 0);
        due("ended", x.told(4), 0);
        x.make();
        due("made again", x.told(4), 4);
        x.handler(0, 1, 29, 0);
        x.make();
        due("a FAULT", x.told(4), 0);
        x = program(LOAD, 0, END, 0);
        x.make();
        due("FAULT 4", x.told(4), 0);
    }

    @Sentence(of = "Promise 16", says = "BAD.")
    static void toldOfNothing() {
        FrameWriter x = program(GO, 1, END, 0);
        x.make();
        int[] bad = {-1, 5, 6, 100, LEAST, MOST};
        for (int what : bad) {
            due("told(" + what + ")", x.told(what), BAD);
        }
        due("FRAMES are there still", x.told(3), 1);
    }

    public static void main(String[] args) {
        runSentences(FrameSentencesTest.class);
    }
}
