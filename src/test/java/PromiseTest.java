import java.util.Arrays;

/** For each promise of the document: ordinary inputs, the edges that it names, wrong inputs. */
final class PromiseTest extends Checks {
    private static void newObject() {
        FrameWriter x = new FrameWriter();
        due("1: TYPES", x.told(0), 1);
        due("1: INSTRUCTIONS", x.told(1), 0);
        due("1: HANDLERS", x.told(2), 0);
        due("1: FRAMES", x.told(3), 0);
        due("1: REACHED", x.told(4), 0);
        due("1: fault", x.fault(), 0);
        due("1: packed", x.packed(), NONE);
        due("1: frame", x.frame(0), NONE);
        due("1: judge", x.judge(), BAD);
        due("1: plant", x.plant(0, 0, 0), BAD);
        dueThrow("1", x, 0);
        x = program(END, 0);
        x.make();
        dueState("1: the beginning", x, 0);
    }

    private static void types() {
        FrameWriter x = new FrameWriter();
        due("2: no parent", x.type(1, false), BAD);
        due("2: parent -1", x.type(-1, false), BAD);
        due("2: least parent", x.type(Integer.MIN_VALUE, true), BAD);
        due("2: a TYPE", x.type(0, false), 1);
        due("2: a FACE", x.type(0, true), 2);
        due("2: of a FACE", x.type(2, false), BAD);
        due("2: a FACE of a FACE", x.type(2, true), BAD);
        due("2: a FACE not of 0", x.type(1, true), BAD);
        for (int t = 3; t < 8; t++) {
            due("2: a chain", x.type(t == 3 ? 1 : t - 1, false), t);
        }
        due("2: full", x.type(0, false), FULL);
        due("2: full, of a FACE", x.type(2, false), BAD);
        due("2: TYPES", x.told(0), 8);
        due("2: from the chain's end", x.goes(107, 101), 1);
        due("2: not from the FACE", x.goes(107, 102), 1);
        due("2: the FACE not for the chain", x.goes(102, 107), 0);
    }

    private static void locals() {
        FrameWriter x = withTypes();
        int[][] bad = {{-1, 0}, {8, 0}, {7, 2}, {0, 3}, {0, 5}, {0, 99}, {0, 106}, {0, 200}, {0, -1}, {8, 2}, {-1, 2}};
        for (int[] b : bad) {
            due("3: local(" + b[0] + ", " + b[1] + ")", x.local(b[0], b[1]), BAD);
        }
        x.op(END, 0);
        due("3: INT", x.local(0, 1), 1);
        due("3: NULL", x.local(1, 4), 1);
        due("3: THING", x.local(2, 105), 1);
        due("3: FACE", x.local(3, 104), 1);
        due("3: LONG", x.local(6, 2), 1);
        x.make();
        dueState("3: all", x, 0, 1, 4, 105, 104, 0, 0, 2, 3);
        due("3: a LONG over the first place of one", x.local(5, 2), 1);
        x.make();
        dueState("3: over the first", x, 0, 1, 4, 105, 104, 0, 2, 3, 0);
        due("3: a LONG over the second place of one", x.local(6, 2), 1);
        x.make();
        dueState("3: over the second", x, 0, 1, 4, 105, 104, 0, 0, 2, 3);
        due("3: a LONG over two", x.local(4, 2), 1);
        due("3: a LONG between two", x.local(5, 2), 1);
        x.make();
        dueState("3: over both", x, 0, 1, 4, 105, 104, 0, 2, 3, 0);
        due("3: an INT over a first place", x.local(5, 1), 1);
        x.make();
        dueState("3: INT over a first place", x, 0, 1, 4, 105, 104, 0, 1, 0, 0);
        due("3: a LONG", x.local(6, 2), 1);
        due("3: TOP over a second place", x.local(7, 0), 1);
        due("3: TOP again", x.local(0, 0), 1);
        x.make();
        dueState("3: TOPS", x, 0, 0, 4, 105, 104, 0, 1, 0, 0);
        due("3: a refused one changes nothing", x.local(7, 2), BAD);
        due("3: STATES are still there", x.state(0, 1), 4);
        due("3: told again, the same", x.local(1, 4), 1);
        due("3: STATES are ended", x.state(0, 1), NONE);
    }

    private static void ops() {
        FrameWriter x = withTypes();
        int[][] bad = {
            {-1, 0}, {21, 0}, {Integer.MAX_VALUE, 0}, {Integer.MIN_VALUE, 0}, {LOAD, -1}, {LOAD, 8}, {STORE, -1}, {STORE, 8},
            {LOAD2, -1}, {LOAD2, 7}, {LOAD2, 8}, {STORE2, -1}, {STORE2, 7}, {BEGIN, -1}, {BEGIN, 6}, {BEGIN, 4}, {CAST, -1},
            {CAST, 6}, {USE, -1}, {USE, 6}, {IF, -1}, {IF, 30}, {SAME, -1}, {SAME, 30}, {GO, -1}, {GO, 30}};
        for (int[] b : bad) {
            due("4: op(" + b[0] + ", " + b[1] + ")", x.op(b[0], b[1]), BAD);
        }
        due("4: none of these is there", x.told(1), 0);
        int[][] good = {
            {INT, -9}, {LONG, 99}, {NULL, -1}, {LOAD, 7}, {LOAD2, 6}, {STORE, 7}, {STORE2, 6}, {POP, -5}, {POP2, 77}, {DUP, -1},
            {ADD, 1000}, {ADD2, -1000}, {BEGIN, 5}, {MAKE, -3}, {CAST, 4}, {USE, 4}, {IF, 29}, {SAME, 29}, {GO, 29}, {END, -1},
            {THROW, Integer.MIN_VALUE}, {LOAD, 0}, {LOAD2, 0}, {BEGIN, 0}, {CAST, 0}, {USE, 0}, {IF, 0}, {SAME, 0}, {GO, 0}};
        for (int i = 0; i < good.length; i++) {
            due("4: op(" + good[i][0] + ", " + good[i][1] + ")", x.op(good[i][0], good[i][1]), i);
        }
        due("4: the last one", x.op(END, 0), 29);
        due("4: full", x.op(END, 0), FULL);
        due("4: full, wrong", x.op(LOAD, 8), BAD);
        due("4: INSTRUCTIONS", x.told(1), 30);
        x = program(END, 0);
        x.make();
        due("4: a refused one changes nothing", x.op(21, 0), BAD);
        due("4: STATES are still there", x.state(0, 0), 0);
        x.op(END, 0);
        due("4: STATES are ended", x.state(0, 0), NONE);
    }

    private static void handlers() {
        FrameWriter x = withTypes();
        int[][] bad = {{-1, 1, 0, 0}, {0, 31, 0, 0}, {3, 3, 0, 0}, {4, 3, 0, 0}, {0, 1, -1, 0}, {0, 1, 30, 0}, {0, 1, 0, 6},
            {0, 1, 0, -1}, {30, 31, 0, 0}, {0, 0, 0, 0}, {-2, -1, 0, 0}};
        for (int[] b : bad) {
            due("5: handler" + Arrays.toString(b), x.handler(b[0], b[1], b[2], b[3]), BAD);
        }
        due("5: none of these is there", x.told(2), 0);
        due("5: the widest", x.handler(0, 30, 29, 5), 0);
        due("5: of a FACE", x.handler(29, 30, 0, 4), 1);
        due("5: third", x.handler(1, 2, 1, 0), 2);
        due("5: fourth", x.handler(1, 2, 1, 0), 3);
        due("5: full", x.handler(1, 2, 1, 0), FULL);
        due("5: full, wrong", x.handler(2, 2, 1, 0), BAD);
        due("5: HANDLERS", x.told(2), 4);

        x = withTypes();
        x.local(0, 1);
        extend(x, NULL, 0, STORE, 0, END, 0, STORE, 1, END, 0);
        x.handler(1, 2, 3, 4);
        dueFine("5: LOCALS as they are ahead", x, 1);
        dueState("5: at the HANDLER", x, 3, 1, 0, 0, 0, 0, 0, 0, 0, 104);
        dueState("5: behind it", x, 4, 1, 104);
        due("5: a refused one changes nothing", x.handler(2, 2, 1, 0), BAD);
        due("5: FRAMES are still there", x.frame(0), 3);
        due("5: one more", x.handler(2, 3, 3, 0), 1);
        due("5: FRAMES are ended", x.frame(0), NONE);
        dueFine("5: joined from two", x, 1);
        dueState("5: both meet", x, 3, 0, 0, 0, 0, 0, 0, 0, 0, 100);
    }

    private static void faultsBySize() {
        dueFault("6: no INSTRUCTION", new FrameWriter(), 1, 0);
        dueFault("6: on behind the last", program(INT, 0), 1, 0);
        dueFault("6: a where none is", program(INT, 0, IF, 3, END, 0), 1, 1);
        dueFault("6: GO where none is", program(GO, 1), 1, 0);
        due("6: what is not REACHED has no FAULT", program(END, 0, GO, 29, POP, 0).make(), 0);
        dueFault("6: fewer than 0", program(POP, 0, END, 0), 3, 0);
        dueFault("6: SAME takes two", program(NULL, 0, SAME, 2, END, 0), 3, 1);
        dueFault("6: DUP of nothing", program(DUP, 0, END, 0), 3, 0);
        dueFault("6: CAST of nothing", program(CAST, 0, END, 0), 3, 0);
        dueFault("6: ADD of one", program(INT, 0, ADD, 0, END, 0), 3, 1);
        dueFault("6: ADD2 of three", program(LONG, 0, INT, 0, ADD2, 0, END, 0), 3, 2);
        dueFault("6: THROW of nothing", program(THROW, 0), 3, 0);
        dueFault("6: more than six", program(LONG, 0, LONG, 0, LONG, 0, INT, 0, END, 0), 3, 3);
        dueFault("6: LONG as the seventh", program(LONG, 0, LONG, 0, INT, 0, LONG, 0, END, 0), 3, 3);
        dueFine("6: six", program(LONG, 0, LONG, 0, INT, 0, DUP, 0, END, 0), 0);
        dueFault("6: DUP as the seventh", program(LONG, 0, LONG, 0, INT, 0, DUP, 0, DUP, 0, END, 0), 3, 4);
        dueFault("6: unlike sizes", program(INT, 0, IF, 3, INT, 0, END, 0), 2, 3);
        dueFault("6: unlike sizes at the beginning", program(INT, 0, GO, 0), 2, 0);
        dueFault("6: the least place, not the least number", program(INT, 0, IF, 3, POP, 0, GO, 9), 3, 2);
        dueFault("6: of one the least number: 1, 3", program(INT, 0, DUP, 0, IF, 1), 1, 2);
        dueFault("6: 2 before 3", program(INT, 0, INT, 0, INT, 0, IF, 1, END, 0), 2, 1);
        dueFault("6: KINDS are looked at only then", program(NULL, 0, IF, 2, POP, 0, END, 0), 3, 2);
        FrameWriter x = program(GO, 1, END, 0);
        x.handler(0, 1, 2, 0);
        dueFault("6: a HANDLER where none is", x, 1, 0);
        x = program(GO, 1, END, 0, THROW, 0);
        x.handler(1, 3, 9, 0);
        dueFault("6: from which", x, 1, 1);
        x = program(END, 0, END, 0);
        x.handler(1, 30, 9, 0);
        dueFine("6: a HANDLER of none that is REACHED", x, 0);
        x = program(POP, 0, END, 0, POP, 0, GO, 0);
        x.handler(0, 1, 2, 0);
        dueFault("6: a way ends, not for HANDLERS", x, 3, 0);
        x = program(GO, 2, END, 0, POP, 0, END, 0, THROW, 0, END, 0);
        x.handler(2, 3, 1, 0);
        dueFault("6: comes by the HANDLER of a FAULT", x, 3, 2);
        x = program(GO, 3, GO, 9, END, 0, POP, 0, END, 0);
        x.handler(3, 4, 1, 0);
        dueFault("6: behind a FAULT's HANDLER a lesser one", x, 1, 1);
        x = program(GO, 3, INT, 0, END, 0, INT, 0, IF, 2, GO, 2);
        x.handler(5, 6, 2, 0);
        dueFault("6: HANDLER brings one, the ways none", x, 2, 2);
    }

    private static void faultsByKind() {
        FrameWriter x = program(NULL, 0, INT, 0, IF, 4, POP, 0, IF, 5, END, 0);
        dueFault("7: unlike sizes before KINDS", x, 2, 4);
        x = program(NULL, 0, IF, 2, END, 0);
        dueFault("7: IF of NULL", x, 4, 1);
        due("7: STATES are not asked for a fault", x.fault(), 4);
        x.op(END, 0);
        due("7: of the latest make()", x.fault(), 4);
        dueFault("7: again", x, 4, 1);
        x = program(INT, 0, END, 0);
        x.make();
        due("7: none", x.fault(), 0);

        wants("INT", INT, 1);
        wants("LONG", LONG, 2, 3);
        wants("NULL", NULL, 4);
        notWanted("LOAD of TOP", LOAD, 0);
        notWanted("LOAD2 of TOP", LOAD2, 0);
        FrameWriter y = new FrameWriter();
        y.local(0, 2);
        dueFault("7: LOAD of LONG", extend(y, LOAD, 0, END, 0), 4, 0);
        y = new FrameWriter();
        y.local(0, 2);
        dueFault("7: LOAD of HALF", extend(y, LOAD, 1, END, 0), 4, 0);
        y = new FrameWriter();
        y.local(0, 2);
        y.local(2, 2);
        dueFault("7: LOAD2 at HALF", extend(y, LOAD2, 1, END, 0), 4, 0);
        dueFault("7: STORE of HALF", program(LONG, 0, STORE, 0, END, 0), 4, 1);
        dueFault("7: POP of HALF", program(LONG, 0, POP, 0, END, 0), 4, 1);
        dueFault("7: DUP of HALF", program(LONG, 0, DUP, 0, END, 0), 4, 1);
        dueFault("7: STORE2 of two INTS", program(INT, 0, INT, 0, STORE2, 0, END, 0), 4, 2);
        dueFault("7: POP2 through a LONG", program(LONG, 0, INT, 0, POP2, 0, END, 0), 4, 2);
        dueFine("7: POP2 of a LONG", program(LONG, 0, POP2, 0, END, 0), 0);
        dueFine("7: POP2 of NULL and INT", program(NULL, 0, INT, 0, POP2, 0, END, 0), 0);
        dueFault("7: ADD of NULL", program(NULL, 0, INT, 0, ADD, 0, END, 0), 4, 2);
        dueFault("7: ADD to NULL", program(INT, 0, NULL, 0, ADD, 0, END, 0), 4, 2);
        dueFault("7: ADD of a LONG", program(LONG, 0, ADD, 0, END, 0), 4, 1);
        dueFault("7: ADD2 of INTS", program(INT, 0, INT, 0, LONG, 0, ADD2, 0, END, 0), 4, 3);
        dueFault("7: ADD2 across", program(INT, 0, LONG, 0, INT, 0, ADD2, 0, END, 0), 4, 3);
        dueFault("7: MAKE of NULL", program(NULL, 0, MAKE, 0, END, 0), 4, 1);
        dueFault("7: MAKE of a THING", program(NULL, 0, CAST, 0, MAKE, 0, END, 0), 4, 2);
        dueFault("7: CAST of INT", program(INT, 0, CAST, 0, END, 0), 4, 1);
        dueFault("7: CAST of what is begun", program(BEGIN, 0, CAST, 0, END, 0), 4, 1);
        dueFault("7: USE of INT", program(INT, 0, USE, 0, END, 0), 4, 1);
        dueFault("7: USE of what is begun", program(BEGIN, 0, USE, 0, END, 0), 4, 1);
        dueFine("7: USE of NULL", program(NULL, 0, USE, 0, END, 0), 0);
        dueFault("7: USE of another TYPE", extend(withTypes(), NULL, 0, CAST, 1, USE, 2, END, 0), 4, 2);
        dueFault("7: USE of a FACE as TYPE 1", extend(withTypes(), NULL, 0, CAST, 4, USE, 1, END, 0), 4, 2);
        dueFine("7: USE as a FACE", extend(withTypes(), NULL, 0, CAST, 2, USE, 4, END, 0), 0);
        dueFine("7: USE as 0", extend(withTypes(), NULL, 0, CAST, 4, USE, 0, END, 0), 0);
        dueFault("7: SAME of INT", program(INT, 0, NULL, 0, SAME, 3, END, 0), 4, 2);
        dueFault("7: SAME with what is begun", program(NULL, 0, BEGIN, 0, SAME, 3, END, 0), 4, 2);
        dueFault("7: THROW of INT", program(INT, 0, THROW, 0), 4, 1);
        dueFault("7: THROW of what is begun", program(BEGIN, 0, THROW, 0), 4, 1);
        dueFine("7: THROW of NULL", program(NULL, 0, THROW, 0), 0);
        dueFault("7: TOPS behind what is not wanted", program(INT, 0, STORE, 0, GO, 6, LOAD, 0, POP, 0, END, 0,
            NULL, 0, IF, 3, END, 0), 4, 3);
        x = program(INT, 0, STORE, 0, GO, 6, LOAD, 0, POP, 0, END, 0, NULL, 0, IF, 3, END, 0, STORE, 1, GO, 3);
        x.handler(7, 8, 9, 0);
        dueFault("7: a HANDLER of it has LOCALS as they are ahead", x, 4, 3);
        x = program(INT, 0, STORE, 0, GO, 6, LOAD, 0, POP, 0, END, 0, NULL, 0, IF, 8, END, 0, STORE, 1, GO, 3);
        x.handler(7, 8, 9, 0);
        dueFault("7: and is not spoilt by it", x, 4, 7);
    }

    private static void notWanted(String what, int op, int a) {
        dueFault("7: " + what, program(op, a, END, 0), 4, 0);
    }

    private static void wants(String what, int op, int... pile) {
        FrameWriter x = program(op, 0, END, 0);
        dueFine("8: " + what, x, 0);
        int[] places = new int[8 + pile.length];
        System.arraycopy(pile, 0, places, 8, pile.length);
        dueState("8: " + what, x, 1, places);
    }

    private static void states() {
        FrameWriter x = program(INT, 0, END, 0, END, 0);
        x.make();
        int[] places = {-1, 14, Integer.MIN_VALUE, Integer.MAX_VALUE};
        for (int place : places) {
            due("8: state(0, " + place + ")", x.state(0, place), BAD);
        }
        due("8: not REACHED", x.state(2, 0), NONE);
        due("8: no such INSTRUCTION", x.state(3, 0), NONE);
        due("8: -1", x.state(-1, 0), NONE);
        due("8: far", x.state(Integer.MAX_VALUE, 0), NONE);
        due("8: on THE PILE", x.state(1, 8), 1);
        due("8: not so high", x.state(1, 9), NONE);
        due("8: the last place", x.state(1, 13), NONE);
        due("8: REACHED", x.told(4), 2);

        x = new FrameWriter();
        x.local(0, 1);
        x.local(2, 2);
        extend(x, LOAD, 0, STORE, 3, LONG, 0, STORE2, 4, LONG, 0, LONG, 0, ADD2, 0, STORE2, 5, INT, 0, DUP, 0, ADD, 0,
            STORE, 5, LONG, 0, STORE2, 1, LOAD2, 1, NULL, 0, STORE, 1, POP2, 0, END, 0);
        dueFine("8: stores", x, 0);
        dueState("8: STORE over HALF", x, 2, 1, 0, 0, 1);
        dueState("8: STORE2", x, 4, 1, 0, 0, 1, 2, 3);
        dueState("8: two LONGS", x, 6, 1, 0, 0, 1, 2, 3, 0, 0, 2, 3, 2, 3);
        dueState("8: ADD2", x, 7, 1, 0, 0, 1, 2, 3, 0, 0, 2, 3);
        dueState("8: STORE2 over HALF", x, 8, 1, 0, 0, 1, 0, 2, 3, 0);
        dueState("8: DUP", x, 10, 1, 0, 0, 1, 0, 2, 3, 0, 1, 1);
        dueState("8: ADD", x, 11, 1, 0, 0, 1, 0, 2, 3, 0, 1);
        dueState("8: STORE over a first place", x, 12, 1, 0, 0, 1, 0, 1, 0, 0);
        dueState("8: LOAD2", x, 15, 1, 2, 3, 1, 0, 1, 0, 0, 2, 3);
        dueState("8: STORE over LONG", x, 17, 1, 4, 0, 1, 0, 1, 0, 0, 2, 3);
        dueState("8: POP2", x, 18, 1, 4, 0, 1, 0, 1, 0, 0);

        x = new FrameWriter();
        x.local(1, 2);
        x.local(3, 2);
        extend(x, LONG, 0, STORE2, 2, END, 0);
        dueFine("8: over two LONGS", x, 0);
        dueState("8: over two LONGS", x, 2, 0, 0, 2, 3, 0);

        x = withTypes();
        extend(x, BEGIN, 5, DUP, 0, STORE, 0, LOAD, 0, STORE, 6, MAKE, 0, BEGIN, 2, DUP, 0, STORE, 1, CAST, 0, END, 0);
        dueFault("8: begun is no THING", x, 4, 9);
        x = withTypes();
        extend(x, BEGIN, 5, DUP, 0, STORE, 0, LOAD, 0, STORE, 6, MAKE, 0, LOAD, 6, CAST, 4, END, 0);
        dueFine("8: BEGIN and MAKE", x, 0);
        dueState("8: begun", x, 5, 200, 0, 0, 0, 0, 0, 200, 0, 200);
        dueState("8: made", x, 6, 105, 0, 0, 0, 0, 0, 105, 0);
        dueState("8: LOAD", x, 7, 105, 0, 0, 0, 0, 0, 105, 0, 105);
        dueState("8: CAST", x, 8, 105, 0, 0, 0, 0, 0, 105, 0, 104);

        x = withTypes();
        extend(x, NULL, 0, STORE, 0, BEGIN, 1, STORE, 0, INT, 0, IF, 2, END, 0);
        dueFine("8: BEGIN in a loop", x, 1);
        dueState("8: NULL and begun meet", x, 2, 0);
        dueState("8: begun anew", x, 3, 0, 0, 0, 0, 0, 0, 0, 0, 202);
        dueState("8: and stored", x, 4, 202);
        x = withTypes();
        extend(x, BEGIN, 1, DUP, 0, STORE, 0, BEGIN, 2, MAKE, 0, STORE, 1, END, 0);
        dueFine("8: two are begun", x, 0);
        dueState("8: only the one is made", x, 5, 200, 0, 0, 0, 0, 0, 0, 0, 200);

        x = withTypes();
        x.local(0, 102);
        x.local(1, 2);
        x.local(3, 105);
        x.local(4, 1);
        extend(x, INT, 0, IF, 10, NULL, 0, CAST, 3, STORE, 0, INT, 0, STORE, 2, NULL, 0, STORE, 3, GO, 10, END, 0);
        dueFine("8: joined", x, 1);
        dueState("8: place by place", x, 10, 101, 0, 0, 105, 1);
        loops();
    }

    private static void loops() {
        FrameWriter x = withTypes();
        x.local(0, 4);
        extend(x, LOAD, 0, STORE, 1, NULL, 0, CAST, 5, STORE, 0, INT, 0, IF, 0, END, 0);
        dueFine("8: a loop", x, 1);
        dueState("8: joined in rounds", x, 0, 105, 0);
        dueState("8: behind it", x, 7, 105, 105);
        x = program(GO, 2, END, 0, INT, 0, IF, 1, GO, 2);
        dueFine("8: backwards", x, 2);
        due("8: all are REACHED", x.told(4), 5);
    }

    private static void frames() {
        FrameWriter x = program(GO, 4, END, 0, GO, 1, GO, 3, INT, 0, IF, 7, END, 0, NULL, 0, NULL, 0, SAME, 6, GO, 7);
        x.handler(1, 4, 3, 0);
        due("9: make", x.make(), 3);
        int[] due = {4, 6, 7, NONE};
        for (int k = 0; k < due.length; k++) {
            due("9: frame(" + k + ")", x.frame(k), due[k]);
        }
        due("9: -1", x.frame(-1), NONE);
        due("9: far", x.frame(Integer.MAX_VALUE), NONE);
        due("9: how many", x.told(3), 3);
        x.type(0, false);
        due("9: ended by type()", x.frame(0), NONE);
        due("9: how many then", x.told(3), 0);
        due("9: none by refused type()", x.make(), 3);
        x.type(9, false);
        due("9: still there", x.frame(0), 4);
        x = program(INT, 0, IF, 0, END, 0);
        dueFine("9: at 0", x, 1);
        due("9: frame 0 at 0", x.frame(0), 0);
        dueBytes("9: at 0", x, 0);
    }

    private static void writing() {
        FrameWriter x = program(END, 0);
        due("10: before make()", x.packed(), NONE);
        x.make();
        due("10: none", x.packed(), 0);
        dueThrow("11: none", x, 0);
        x.local(0, 0);
        due("10: ended", x.packed(), NONE);

        x = withTypes();
        x.local(0, 1);
        extend(x, GO, 1, INT, 0, STORE, 1, GO, 4, LONG, 0, STORE2, 3, GO, 7, GO, 8, NULL, 0, STORE, 7, GO, 11, BEGIN, 2,
            GO, 13, DUP, 0, GO, 15, POP2, 0, GO, 17, END, 0);
        dueFine("10: all forms", x, 8);
        dueBytes("10: all forms", x, 1, 252, 2, 1, 253, 2, 0, 2, 0, 254, 2, 0, 0, 4, 65, 8, 11,
            255, 1, 7, 1, 1, 0, 2, 0, 0, 4, 2, 8, 11, 8, 11, 1);
        due("10: how many", x.packed(), 33);
    }

    private static void forms() {
        FrameWriter x = program(INT, 0, STORE, 0, GO, 3, GO, 4, END, 0);
        dueFine("11: one more, then the same", x, 2);
        dueBytes("11: one more, then the same", x, 252, 3, 1, 0);
        x = program(INT, 0, STORE, 1, GO, 3, END, 0);
        dueFine("11: TOP between", x, 1);
        dueBytes("11: TOP between", x, 253, 3, 0, 1);
        x = program(LONG, 0, STORE2, 1, GO, 3, END, 0);
        dueFine("11: a LONG is one", x, 1);
        dueBytes("11: a LONG is one", x, 253, 3, 0, 2);
        x = program(NULL, 0, STORE, 2, GO, 3, END, 0);
        dueFine("11: three more", x, 1);
        dueBytes("11: three more", x, 254, 3, 0, 0, 4);
        x = program(NULL, 0, STORE, 3, GO, 3, END, 0);
        dueFine("11: four more", x, 1);
        dueBytes("11: four more", x, 255, 3, 4, 0, 0, 0, 4, 0);
        for (int less = 1; less <= 4; less++) {
            x = lessAtTheEnd(less);
            if (less < 4) {
                dueBytes("11: less by " + less, x, 251 - less, 2);
            } else {
                dueBytes("11: less by 4", x, 255, 2, 1, 2, 0);
            }
        }
        x = program(LONG, 0, GO, 2, END, 0);
        dueFine("11: a LONG on THE PILE", x, 1);
        dueBytes("11: a LONG on THE PILE", x, 66, 2);
        x = program(LONG, 0, INT, 0, GO, 3, END, 0);
        dueFine("11: two on THE PILE", x, 1);
        dueBytes("11: two on THE PILE", x, 255, 3, 0, 2, 2, 1);
        x = program(BEGIN, 0, INT, 0, IF, 3, END, 0);
        dueFine("11: begun", x, 1);
        dueBytes("11: begun", x, 67, 8, 0);
        x = program(INT, 0, STORE, 0, NULL, 0, CAST, 0, GO, 5, END, 0);
        dueFine("11: one more and a PILE", x, 1);
        dueBytes("11: one more and a PILE", x, 255, 5, 1, 1, 1, 7, 0);
        x = program(INT, 0, IF, 4, NULL, 0, GO, 5, INT, 0, END, 0);
        dueFine("11: TOP on THE PILE", x, 2);
        dueBytes("11: TOP on THE PILE", x, 4, 64, 0);
        x = new FrameWriter();
        x.local(0, 1);
        extend(x, NULL, 0, STORE, 0, GO, 3, END, 0);
        dueFine("11: another one", x, 1);
        dueBytes("11: another one", x, 255, 3, 1, 4, 0);
        x = new FrameWriter();
        x.local(0, 1);
        x.local(1, 1);
        extend(x, INT, 0, IF, 4, NULL, 0, STORE, 1, NULL, 0, STORE, 0, GO, 7, END, 0);
        dueFine("11: by the one before", x, 2);
        dueBytes("11: by the one before", x, 250, 4, 255, 2, 1, 4, 0);
        dueThrow("11: behind the last", x, 7);
        dueThrow("11: -1", x, -1);
        dueThrow("11: far", x, Integer.MAX_VALUE);
        dueThrow("11: least", x, Integer.MIN_VALUE);
        x.handler(0, 1, 29, 0);
        dueThrow("11: ended", x, 0);
        x.make();
        dueThrow("11: a FAULT", x, 0);
    }

    /** A FRAME at 2 that has a LONG alone of a beginning with some THINGS more. */
    private static FrameWriter lessAtTheEnd(int less) {
        FrameWriter x = new FrameWriter();
        x.local(0, 2);
        for (int place = 2; place < 2 + less; place++) {
            x.local(place, 100);
        }
        // Each STORE of an INT meets the THINGS at 2, where a way comes straight from 0.
        extend(x, INT, 0, IF, 2, INT, 0, STORE, 2, INT, 0, STORE, 3, INT, 0, STORE, 4, INT, 0, STORE, 5, GO, 2);
        dueFine("11: less by " + less, x, 1);
        return x;
    }

    private static void plants() {
        FrameWriter x = withTypes();
        x.local(0, 2);
        x.local(2, 101);
        extend(x, BEGIN, 0, GO, 2, POP, 0, END, 0);
        due("12: no FRAMES", x.plant(0, 2, 0), BAD);
        dueFine("12", x, 1);
        int[][] bad = {{-1, 2, 0}, {1, 2, 0}, {0, -1, 0}, {0, 9, 0}, {0, 13, 0}, {0, 14, 0}, {0, 0, 0}, {0, 1, 0}, {0, 2, 2},
            {0, 2, 3}, {0, 2, 106}, {0, 2, 200}, {0, 2, -1}, {0, 2, 5}, {0, Integer.MAX_VALUE, 0}, {0, Integer.MIN_VALUE, 0}};
        for (int[] b : bad) {
            due("12: plant" + Arrays.toString(b), x.plant(b[0], b[1], b[2]), BAD);
        }
        due("12: nothing is changed", x.judge(), NONE);
        due("12: THING", x.plant(0, 2, 105), 101);
        due("12: what it was", x.plant(0, 2, 4), 105);
        due("12: NULL", x.plant(0, 2, 1), 4);
        due("12: begun", x.plant(0, 8, 1), 200);
        due("12: TOP", x.plant(0, 7, 0), 0);
        due("12: not in STATES", x.state(2, 2), 101);
        dueBytes("12: not as it is WRITTEN", x, 66, 8, 0);
        due("12: judged by it", x.judge(), 1);
        due("12: made anew", x.make(), 1);
        due("12: as it is again", x.judge(), NONE);
        due("12: what it was then", x.plant(0, 8, 0), 200);
        due("12: TOP may not go", x.judge(), 2);
        x.op(END, 0);
        due("12: ended", x.plant(0, 2, 0), BAD);
    }

    private static void judges() {
        FrameWriter x = program(INT, 0, END, 0);
        due("13: no FRAMES", x.judge(), BAD);
        dueFine("13: made, and are none", x, 0);
        x.local(0, 1);
        due("13: ended", x.judge(), BAD);

        x = withTypes();
        x.local(0, 102);
        extend(x, LOAD, 0, USE, 1, INT, 0, IF, 0, END, 0);
        dueFine("13: at 0", x, 1);
        due("13: plant", x.plant(0, 0, 103), 102);
        due("13: the beginning", x.judge(), 0);
        due("13: plant", x.plant(0, 0, 101), 103);
        due("13: PARENT", x.judge(), NONE);
        due("13: plant", x.plant(0, 0, 100), 101);
        due("13: USE", x.judge(), 1);
        due("13: plant", x.plant(0, 0, 104), 100);
        due("13: USE of a FACE", x.judge(), 1);
        due("13: plant", x.plant(0, 0, 0), 104);
        due("13: LOAD", x.judge(), 0);
        due("13: plant", x.plant(0, 0, 102), 0);
        due("13: elsewhere", x.plant(0, 5, 1), 0);
        due("13: TOP is not INT", x.judge(), 0);

        x = withTypes();
        extend(x, INT, 0, IF, 5, INT, 0, STORE, 0, GO, 6, END, 0, LOAD, 0, POP, 0, END, 0, THROW, 0);
        x.handler(2, 4, 9, 2);
        x.handler(4, 5, 9, 3);
        dueFine("13: HANDLERS", x, 3);
        due("13: the HANDLER'S THING", x.state(9, 8), 101);
        due("13: plant", x.plant(2, 8, 102), 101);
        due("13: of the second", x.judge(), 4);
        due("13: plant", x.plant(2, 8, 103), 102);
        due("13: of the first", x.judge(), 2);
        due("13: plant", x.plant(2, 8, 104), 103);
        due("13: a FACE", x.judge(), NONE);
        due("13: plant", x.plant(2, 0, 1), 0);
        due("13: LOCALS ahead", x.judge(), 2);
        due("13: plant", x.plant(2, 0, 0), 1);
        due("13: plant", x.plant(1, 0, 4), 1);
        due("13: behind GO", x.judge(), 4);
        due("13: plant", x.plant(1, 0, 0), 4);
        due("13: TOP for LOAD", x.judge(), 6);
        due("13: plant", x.plant(1, 0, 1), 0);
        due("13: plant", x.plant(0, 3, 4), 0);
        due("13: the first", x.judge(), 1);
        dueBytes("13: WRITTEN", x, 5, 252, 0, 1, 255, 2, 0, 1, 7, 1);

        x = extend(withTypes(), INT, 0, END, 0, THROW, 0, THROW, 0);
        x.handler(0, 1, 2, 2);
        x.handler(0, 1, 3, 3);
        dueFine("13: two HANDLERS of one INSTRUCTION", x, 2);
        due("13: plant", x.plant(0, 8, 103), 102);
        due("13: the first one's", x.judge(), 0);
        due("13: plant", x.plant(0, 8, 102), 103);
        due("13: plant", x.plant(1, 8, 102), 103);
        due("13: the second one's", x.judge(), 0);

        x = program(GO, 2, INT, 0, END, 0, POP, 0);
        dueFine("13: passed over", x, 1);
        x = program(INT, 0, IF, 4, NULL, 0, GO, 5, NULL, 0, STORE, 0, LOAD, 0, THROW, 0);
        dueFine("13: goes on into a FRAME", x, 2);
        due("13: plant", x.plant(1, 8, 1), 4);
        due("13: GO to it first", x.judge(), 3);
        due("13: plant", x.plant(1, 8, 100), 1);
        due("13: NULL for a THING", x.judge(), NONE);
        x = program(INT, 0, IF, 3, GO, 4, NULL, 0, END, 0);
        dueFault("13: no FRAMES by a FAULT", x, 2, 4);
        due("13: then", x.judge(), BAD);
    }

    private static void kinds() {
        FrameWriter x = withTypes();
        int[] good = {0, 1, 2, 3, 4, 100, 101, 102, 103, 104, 105, 200, 229};
        int[] bad = {-1, 5, 99, 106, 199, 230, 1000, Integer.MIN_VALUE, Integer.MAX_VALUE};
        for (int k : good) {
            // One object is used for 512 calls at most.
            x = withTypes();
            due("14: joined(" + k + ") with itself", x.joined(k, k), k);
            due("15: goes(" + k + ") for itself", x.goes(k, k), 1);
            due("15: goes(" + k + ") for TOP", x.goes(k, 0), 1);
            due("14: joined(" + k + ") with TOP", x.joined(0, k), 0);
            due("15: TOP for " + k, x.goes(0, k), k == 0 ? 1 : 0);
            for (int b : bad) {
                due("14: joined(" + k + ", " + b + ")", x.joined(k, b), BAD);
                due("14: joined(" + b + ", " + k + ")", x.joined(b, k), BAD);
                due("15: goes(" + k + ", " + b + ")", x.goes(k, b), BAD);
                due("15: goes(" + b + ", " + k + ")", x.goes(b, k), BAD);
            }
        }
        int[][] joined = {{102, 103, 101}, {105, 102, 101}, {105, 103, 103}, {105, 101, 101}, {104, 105, 100}, {104, 100, 100},
            {4, 105, 105}, {4, 104, 104}, {4, 1, 0}, {4, 200, 0}, {1, 2, 0}, {2, 3, 0}, {200, 201, 0}, {200, 100, 0}, {1, 100, 0}};
        for (int[] j : joined) {
            due("14: joined(" + j[0] + ", " + j[1] + ")", x.joined(j[0], j[1]), j[2]);
            due("14: joined(" + j[1] + ", " + j[0] + ")", x.joined(j[1], j[0]), j[2]);
        }
        int[][] goes = {{105, 103, 1}, {105, 101, 1}, {105, 100, 1}, {105, 102, 0}, {103, 105, 0}, {105, 104, 1}, {100, 104, 1},
            {104, 100, 1}, {104, 101, 0}, {4, 100, 1}, {4, 104, 1}, {4, 1, 0}, {4, 200, 0}, {100, 4, 0}, {200, 100, 0},
            {200, 201, 0}, {200, 104, 0}, {1, 104, 0}, {2, 3, 0}, {3, 2, 0}, {1, 2, 0}, {1, 4, 0}};
        for (int[] g : goes) {
            due("15: goes(" + g[0] + ", " + g[1] + ")", x.goes(g[0], g[1]), g[2]);
        }
    }

    private static void told() {
        FrameWriter x = withTypes();
        extend(x, GO, 2, POP, 0, GO, 3, END, 0);
        x.handler(1, 2, 0, 0);
        int[] due = {6, 4, 1, 0, 0};
        for (int what = 0; what < 5; what++) {
            due("16: told(" + what + ")", x.told(what), due[what]);
        }
        due("16: make", x.make(), 2);
        due("16: FRAMES", x.told(3), 2);
        due("16: REACHED", x.told(4), 3);
        due("16: -1", x.told(-1), BAD);
        due("16: 5", x.told(5), BAD);
        x.handler(0, 1, 0, 0);
        due("16: FRAMES are ended", x.told(3), 0);
        due("16: REACHED are ended", x.told(4), 0);
    }

    /** The example of README.md, so that it stays true. */
    private static void readme() {
        FrameWriter x = new FrameWriter();
        int shape = x.type(0, false);
        due("README: type", shape, 1);
        due("README: local", x.local(0, 100 + shape), 1);
        extend(x, LOAD, 0, USE, shape, INT, 0, IF, 0, END, 0);
        due("README: make", x.make(), 1);
        due("README: frame", x.frame(0), 0);
        due("README: state", x.state(1, 8), 101);
        due("README: packed", x.packed(), 1);
        due("README: out", x.out(0), 0);
        due("README: judge", x.judge(), NONE);
        due("README: plant", x.plant(0, 0, 100), 101);
        due("README: judge of the planted", x.judge(), 1);
    }

    public static void main(String[] args) {
        readme();
        newObject();
        types();
        locals();
        ops();
        handlers();
        faultsBySize();
        faultsByKind();
        states();
        frames();
        writing();
        forms();
        plants();
        judges();
        kinds();
        told();
        end("the promises");
    }
}
