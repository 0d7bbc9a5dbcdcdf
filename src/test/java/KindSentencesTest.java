/** TYPES and KINDS: the document's part 1, Promises 1, 2, 14 and 15, sentence by sentence. */
final class KindSentencesTest extends Checks {

    // ---- Promise 1: a new object

    @Sentence(of = "Promise 1", says = "`FrameWriter()`: TYPE 0")
    static void aNewObjectHasTypeZeroAlone() {
        FrameWriter x = new FrameWriter();
        due("TYPES", x.told(0), 1);
        due("a THING of TYPE 0", x.joined(100, 100), 100);
        due("a THING of TYPE 1", x.joined(101, 101), BAD);
        due("the first TYPE that is made", x.type(0, false), 1);
    }

    @Sentence(of = "Promise 1", says = "no INSTRUCTIONS")
    static void aNewObjectHasNoInstructions() {
        FrameWriter x = new FrameWriter();
        due("INSTRUCTIONS", x.told(1), 0);
        due("the first one", x.op(END, 0), 0);
    }

    @Sentence(of = "Promise 1", says = "no HANDLERS.")
    static void aNewObjectHasNoHandlers() {
        FrameWriter x = new FrameWriter();
        due("HANDLERS", x.told(2), 0);
        due("the first one", x.handler(0, 1, 0, 0), 0);
    }

    @Sentence(of = "Promise 1, of Promises 6 to 13", says = "A new object: no STATES, FRAMES")
    static void aNewObjectHasNothingMade() {
        FrameWriter x = new FrameWriter();
        dueNothingMade("new", x);
        due("no make() yet", x.fault(), 0);
    }

    @Sentence(of = "Promise 1", says = "`FrameWriter()`: TYPE 0; no INSTRUCTIONS, no HANDLERS.")
    static void objectsKnowNothingOfOneAnother() {
        FrameWriter one = withLocals(0, 1);
        extend(one, INT, 0, IF, 0, END, 0);
        one.handler(0, 1, 2, 0);
        one.make();
        FrameWriter two = new FrameWriter();
        due("TYPES", two.told(0), 1);
        due("INSTRUCTIONS", two.told(1), 0);
        due("HANDLERS", two.told(2), 0);
        extend(two, END, 0);
        two.make();
        dueState("LOCALS", two, 0);
    }

    // ---- Promise 2: type

    @Sentence(of = "Promise 2, part 1", says = "TYPES 0 .. 7")
    static void typesAreNumberedUpToSeven() {
        FrameWriter x = new FrameWriter();
        for (int t = 1; t <= 7; t++) {
            due("THING " + t + " ahead of its TYPE", x.goes(100 + t, 0), BAD);
            due("TYPE " + t, x.type(0, false), t);
            due("THING " + t, x.goes(100 + t, 0), 1);
        }
        due("TYPES", x.told(0), 8);
        due("THING 8", x.goes(108, 0), BAD);
    }

    @Sentence(of = "Promise 2", says = "FULL.")
    static void anEighthTypeBesidesZeroIsRefused() {
        FrameWriter x = new FrameWriter();
        for (int t = 1; t <= 7; t++) {
            x.type(0, false);
        }
        due("one more", x.type(0, false), FULL);
        due("a FACE more", x.type(0, true), FULL);
        due("one more of the last", x.type(7, false), FULL);
        due("TYPES", x.told(0), 8);
        due("THING 8", x.joined(108, 108), BAD);
    }

    @Sentence(of = "Promise 2, part 1", says = "each other one has a PARENT, made before")
    static void theParentIsMadeBefore() {
        FrameWriter x = new FrameWriter();
        due("its own number", x.type(1, false), BAD);
        due("the first", x.type(0, false), 1);
        due("its own number again", x.type(2, false), BAD);
        due("of the latest", x.type(1, false), 2);
        due("one that comes later", x.type(7, false), BAD);
    }

    @Sentence(of = "Promise 2", says = "BAD: the PARENT (none")
    static void aParentThatIsNoneIsBad() {
        FrameWriter x = withTypes();
        int[] none = {-1, 6, 7, 8, 100, 101, LEAST, LEAST + 1, MOST, MOST - 7};
        for (int parent : none) {
            due("of " + parent, x.type(parent, false), BAD);
            due("a FACE of " + parent, x.type(parent, true), BAD);
        }
        due("TYPES", x.told(0), 6);
    }

    @Sentence(of = "Promise 2, part 1", says = "no FACE is a PARENT")
    static void aFaceIsNoParent() {
        FrameWriter x = new FrameWriter();
        due("a FACE", x.type(0, true), 1);
        due("of the FACE", x.type(1, false), BAD);
        due("a FACE of the FACE", x.type(1, true), BAD);
        due("TYPES", x.told(0), 2);
        due("beside it", x.type(0, false), 2);
    }

    @Sentence(of = "Promise 2, part 1", says = "may be a FACE (its PARENT is 0 then)")
    static void theParentOfAFaceIsZero() {
        FrameWriter x = new FrameWriter();
        x.type(0, false);
        due("a FACE of 1", x.type(1, true), BAD);
        due("TYPES", x.told(0), 1 + 1);
        due("no FACE of 1", x.type(1, false), 2);
        due("a FACE of 0", x.type(0, true), 3);
    }

    @Sentence(of = "Promise 2, of all", says = "Refused calls change nothing.")
    static void refusedTypesLeaveNoTrace() {
        FrameWriter x = new FrameWriter();
        x.type(1, false);
        due("the number of the next one", x.type(0, true), 1);
        x.type(1, true);
        due("and of the one behind it", x.type(0, false), 2);
        x.type(2, true);
        due("no FACE came of it", x.goes(100, 102), 0);
        due("and the FACE is one still", x.goes(100, 101), 1);
        for (int t = 3; t <= 7; t++) {
            x.type(t - 1, false);
        }
        String before = all(x);
        x.type(0, true);
        x.type(7, false);
        due("the last one is no FACE", x.goes(100, 107), 0);
        due("the last one's PARENT", x.goes(107, 106), 1);
        if (!all(x).equals(before)) {
            fail("TYPES that are too many changed something");
        }
    }

    // ---- part 1: what is a KIND

    @Sentence(of = "Promise 14, Promise 15, part 1", says = "0 TOP (nothing to be taken), 1 INT, 2 LONG (in two places: it lies in"
        + " the first), 3 HALF (the second one of a LONG), 4 NULL, 100 + t a THING of TYPE t, 200 + p")
    static void nothingElseIsAKind() {
        FrameWriter x = withTypes();
        for (int kind = -300; kind <= 1200; kind++) {
            if (kind % 200 == 0) {
                x = withTypes();
            }
            boolean is = kind >= 0 && kind <= 4 || kind >= 100 && kind <= 105 || kind >= 200 && kind <= 229;
            due("joined(" + kind + ") with itself", x.joined(kind, kind), is ? kind : BAD);
            due("goes(" + kind + ") for itself", x.goes(kind, kind), is ? 1 : BAD);
        }
    }

    @Sentence(of = "Promise 14", says = "BAD: a KIND (200 + p is one for p 0 .. 29).")
    static void joinedRefusesAKindOnEitherSide() {
        FrameWriter x = withTypes();
        for (int bad : notKinds()) {
            due("joined(" + bad + ", 0)", x.joined(bad, 0), BAD);
            due("joined(0, " + bad + ")", x.joined(0, bad), BAD);
            due("joined(4, " + bad + ")", x.joined(4, bad), BAD);
            due("joined(" + bad + ", " + bad + ")", x.joined(bad, bad), BAD);
        }
    }

    @Sentence(of = "Promise 15", says = "Whether one GOES FOR another: 1, 0. BAD.")
    static void goesRefusesAKindOnEitherSide() {
        FrameWriter x = withTypes();
        for (int bad : notKinds()) {
            due("goes(" + bad + ", 0)", x.goes(bad, 0), BAD);
            due("goes(0, " + bad + ")", x.goes(0, bad), BAD);
            due("goes(4, " + bad + ")", x.goes(4, bad), BAD);
            due("goes(" + bad + ", " + bad + ")", x.goes(bad, bad), BAD);
        }
    }

    private static int[] notKinds() {
        return new int[] {-1, 5, 6, 99, 106, 107, 108, 199, 230, 231, 300, -4, -100, -200, LEAST, LEAST + 100, LEAST + 200, MOST,
            MOST - 27};
    }

    @Sentence(of = "Promise 14", says = "(200 + p is one for p 0 .. 29)")
    static void begunKindsNeedNoInstruction() {
        FrameWriter x = new FrameWriter();
        due("199", x.joined(199, 199), BAD);
        due("200", x.joined(200, 200), 200);
        due("229", x.joined(229, 229), 229);
        due("230", x.joined(230, 230), BAD);
        due("230 and TOP", x.joined(230, 0), BAD);
        due("229 for TOP", x.goes(229, 0), 1);
    }

    // ---- part 1: what goes for what

    @Sentence(of = "Promise 15, part 1", says = "A KIND GOES FOR itself")
    static void eachGoesForItself() {
        FrameWriter x = withTypes();
        int[] kinds = {0, 1, 2, 3, 4, 100, 103, 104, 105, 200, 229};
        for (int kind : kinds) {
            due("goes(" + kind + ")", x.goes(kind, kind), 1);
        }
    }

    @Sentence(of = "Promise 15, part 1", says = "and for TOP")
    static void eachGoesForTopAndTopForItAlone() {
        FrameWriter x = withTypes();
        int[] kinds = {1, 2, 3, 4, 100, 103, 104, 105, 200, 229};
        for (int kind : kinds) {
            due(kind + " for TOP", x.goes(kind, 0), 1);
            due("TOP for " + kind, x.goes(0, kind), 0);
        }
    }

    @Sentence(of = "Promise 15, part 1", says = "NULL for THINGS")
    static void nullGoesForThingsAlone() {
        FrameWriter x = withTypes();
        for (int t = 0; t <= 5; t++) {
            due("NULL for a THING of " + t, x.goes(4, 100 + t), 1);
            due("a THING of " + t + " for NULL", x.goes(100 + t, 4), 0);
        }
        int[] others = {1, 2, 3, 200, 229};
        for (int kind : others) {
            due("NULL for " + kind, x.goes(4, kind), 0);
            due(kind + " for NULL", x.goes(kind, 4), 0);
        }
    }

    @Sentence(of = "Promise 15, part 1", says = "a THING for those of TYPES from which its own comes (its PARENT, that one's, ..)")
    static void aThingGoesForAllItComesFrom() {
        FrameWriter x = new FrameWriter();
        for (int t = 1; t <= 7; t++) {
            x.type(t - 1, false);
        }
        for (int one = 0; one <= 7; one++) {
            for (int two = 0; two <= 7; two++) {
                due("TYPE " + one + " for " + two, x.goes(100 + one, 100 + two), one >= two ? 1 : 0);
            }
        }
    }

    @Sentence(of = "Promise 15, part 1", says = "a THING for those of TYPES from which its own comes")
    static void aThingDoesNotGoForOnesBeside() {
        FrameWriter x = withTypes();
        due("of one PARENT", x.goes(102, 103), 0);
        due("the other way", x.goes(103, 102), 0);
        due("the PARENT's neighbour", x.goes(105, 102), 0);
        due("the PARENT's PARENT", x.goes(105, 101), 1);
    }

    @Sentence(of = "Promise 15, part 1", says = "and of a FACE, whichever its own is")
    static void anyThingGoesForAFace() {
        FrameWriter x = withTypes();
        x.type(0, true);
        for (int t = 0; t <= 6; t++) {
            due("TYPE " + t + " for FACE 4", x.goes(100 + t, 104), 1);
            due("TYPE " + t + " for FACE 6", x.goes(100 + t, 106), 1);
        }
        int[] others = {0, 1, 2, 3, 200, 229};
        for (int kind : others) {
            due(kind + " for a FACE", x.goes(kind, 104), 0);
        }
    }

    @Sentence(of = "Promise 15, part 1", says = "may be a FACE (its PARENT is 0 then)")
    static void aThingOfAFaceGoesForZeroAndFaces() {
        FrameWriter x = withTypes();
        due("for 0", x.goes(104, 100), 1);
        int[] others = {1, 2, 3, 5};
        for (int t : others) {
            due("for " + t, x.goes(104, 100 + t), 0);
        }
    }

    @Sentence(of = "Promise 15, part 1", says = "A KIND GOES FOR itself, and for TOP; NULL for THINGS; a THING for those of TYPES")
    static void numbersAndWhatIsBegunGoForNothingElse() {
        FrameWriter x = withTypes();
        int[] ones = {1, 2, 3, 200, 229};
        int[] twos = {1, 2, 3, 4, 100, 101, 104, 200, 201, 229};
        for (int one : ones) {
            for (int two : twos) {
                due("goes(" + one + ", " + two + ")", x.goes(one, two), one == two ? 1 : 0);
            }
        }
    }

    // ---- part 1: what two are joined to

    @Sentence(of = "Promise 14, part 1", says = "Two are JOINED to: the same one, if they are")
    static void theSameStaysTheSame() {
        FrameWriter x = withTypes();
        int[] kinds = {0, 1, 2, 3, 4, 100, 101, 104, 105, 200, 229};
        for (int kind : kinds) {
            due("joined(" + kind + ")", x.joined(kind, kind), kind);
        }
    }

    @Sentence(of = "Promise 14, part 1", says = "of NULL and a THING that one")
    static void nullAndAThingAreTheThing() {
        FrameWriter x = withTypes();
        for (int t = 0; t <= 5; t++) {
            due("joined(NULL, " + t + ")", x.joined(4, 100 + t), 100 + t);
            due("joined(" + t + ", NULL)", x.joined(100 + t, 4), 100 + t);
        }
    }

    @Sentence(of = "Promise 14, part 1", says = "of two THINGS that of the nearest TYPE that both are, or come from")
    static void twoThingsAreOfTheNearestType() {
        FrameWriter x = withTypes();
        dueJoined(x, 102, 103, 101);
        dueJoined(x, 102, 105, 101);
        dueJoined(x, 103, 105, 103);
        dueJoined(x, 101, 105, 101);
        dueJoined(x, 100, 105, 100);
        due("TYPE 6 of 0", x.type(0, false), 6);
        due("TYPE 7 of 5", x.type(5, false), 7);
        dueJoined(x, 106, 105, 100);
        dueJoined(x, 107, 102, 101);
        dueJoined(x, 107, 103, 103);
        dueJoined(x, 107, 105, 105);
        dueJoined(x, 107, 106, 100);
    }

    @Sentence(of = "Promise 14, part 1", says = "of two THINGS that of the nearest TYPE that both are, or come from")
    static void theNearestInTheLongestLine() {
        FrameWriter x = new FrameWriter();
        for (int t = 1; t <= 7; t++) {
            x.type(t - 1, false);
        }
        for (int one = 0; one <= 7; one++) {
            for (int two = 0; two <= 7; two++) {
                due("joined(" + one + ", " + two + ")", x.joined(100 + one, 100 + two), 100 + Math.min(one, two));
            }
        }
    }

    @Sentence(of = "Promise 14, part 1", says = "(of a FACE and another TYPE 0)")
    static void aFaceAndAnotherAreOfTypeZero() {
        FrameWriter x = withTypes();
        x.type(0, true);
        int[] others = {0, 1, 2, 3, 5, 6};
        for (int t : others) {
            dueJoined(x, 104, 100 + t, 100);
        }
        due("a FACE with itself", x.joined(104, 104), 104);
    }

    @Sentence(of = "Promise 14, part 1", says = "else TOP.")
    static void allOthersAreTop() {
        FrameWriter x = withTypes();
        int[] kinds = {0, 1, 2, 3, 4, 100, 101, 104, 200, 201, 229};
        for (int one : kinds) {
            for (int two : kinds) {
                boolean oneRefers = one == 4 || one >= 100 && one < 200;
                boolean twoRefers = two == 4 || two >= 100 && two < 200;
                if (one != two && !(oneRefers && twoRefers)) {
                    due("joined(" + one + ", " + two + ")", x.joined(one, two), 0);
                }
            }
        }
    }

    private static void dueJoined(FrameWriter x, int one, int two, int want) {
        due("joined(" + one + ", " + two + ")", x.joined(one, two), want);
        due("joined(" + two + ", " + one + ")", x.joined(two, one), want);
    }

    public static void main(String[] args) {
        runSentences(KindSentencesTest.class);
    }
}
