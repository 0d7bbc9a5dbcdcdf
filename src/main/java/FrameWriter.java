/**
 * What lies in the places of a small machine at each of its instructions, the frames of it, how they are
 * written, and a judge that goes by them. The words (KIND, STATE, FRAME, ..) are those of the document.
 */
public final class FrameWriter {
    public static final int NONE = -1, BAD = -2, FULL = -3;

    private static final int TOP = 0, INT = 1, LONG = 2, HALF = 3, NULL = 4, THING = 100, BEGUN = 200;

    private static final int LOCALS = 8, PILE = 6, PLACES = LOCALS + PILE;
    private static final int MOST_TYPES = 8, MOST_INSTRUCTIONS = 30, MOST_HANDLERS = 4;

    private static final int PUSH_INT = 0, PUSH_LONG = 1, PUSH_NULL = 2, LOAD = 3, LOAD2 = 4, STORE = 5, STORE2 = 6;
    private static final int POP = 7, POP2 = 8, DUP = 9, ADD = 10, ADD2 = 11, BEGIN = 12, MAKE = 13, CAST = 14;
    private static final int USE = 15, IF = 16, SAME = 17, GO = 18, END = 19, THROW = 20;

    /** By OP: the places that it takes off THE PILE, and those that it puts there afterwards. */
    private static final int[] TAKES = {0, 0, 0, 0, 0, 1, 2, 1, 2, 1, 2, 4, 0, 1, 1, 1, 1, 2, 0, 0, 1};
    private static final int[] GIVES = {1, 2, 1, 1, 2, 0, 0, 0, 0, 2, 1, 2, 1, 0, 1, 0, 0, 0, 0, 0, 0};

    private static final int NO_INSTRUCTION = 1, UNLIKE_SIZES = 2, WRONG_SIZE = 3, WRONG_KIND = 4;
    private static final int FIRST_FAULT = -10;

    /** Far above what is needed: a place of a STATE changes ten times at most, and there are 420 of them. */
    private static final int MOST_ROUNDS = 100000;

    /** A FRAME takes 32 bytes at most: two, a count and eight ENTRIES of two, a count and six of two. */
    private static final int MOST_BYTES = MOST_INSTRUCTIONS * 32;
    private static final int ONE_ON_PILE = 64, LESS_OR_MORE = 251, MOST_LESS_OR_MORE = 3, WHOLE = 255;
    private static final int THING_ENTRY = 7, BEGUN_ENTRY = 8;

    private final Types types;
    private final Code code;
    private final Cells beginning;
    private final Sizes sizes;
    private final States states;
    private final Frames frames;
    private final Writing writing;
    private final Judge judging;
    private boolean made;
    private int latestFault;

    public FrameWriter() {
        types = new Types();
        code = new Code();
        beginning = new Cells();
        sizes = new Sizes(code);
        Machine machine = new Machine(types, code);
        states = new States(types, code, machine);
        frames = new Frames(code, states);
        writing = new Writing();
        judging = new Judge(types, code, machine, frames);
        made = false;
        latestFault = 0;
    }

    public int type(int parent, boolean face) {
        return changed(types.add(parent, face));
    }

    public int local(int place, int kind) {
        if (place < 0 || place >= LOCALS) {
            return BAD;
        }
        if (kind == LONG) {
            if (place == LOCALS - 1) {
                return BAD;
            }
            beginning.storeLong(place);
            return changed(1);
        }
        if (!types.isPlain(kind)) {
            return BAD;
        }
        beginning.store(place, kind);
        return changed(1);
    }

    public int op(int op, int a) {
        return isNumberFor(op, a) ? changed(code.add(op, a)) : BAD;
    }

    public int handler(int from, int to, int at, int type) {
        if (from < 0 || to > MOST_INSTRUCTIONS || from >= to) {
            return BAD;
        }
        if (at < 0 || at >= MOST_INSTRUCTIONS || !types.has(type)) {
            return BAD;
        }
        return changed(code.addHandler(from, to, at, type));
    }

    public int make() {
        made = false;
        sizes.followWays();
        int place = sizes.lookForFault();
        latestFault = sizes.found();
        if (latestFault != 0) {
            return FIRST_FAULT - place;
        }
        states.workOut(beginning);
        place = states.firstUnsuited();
        if (place != NONE) {
            latestFault = WRONG_KIND;
            return FIRST_FAULT - place;
        }
        frames.gather();
        writing.write(beginning, states, frames);
        made = true;
        return frames.count();
    }

    public int fault() {
        return latestFault;
    }

    public int state(int at, int place) {
        if (place < 0 || place >= PLACES) {
            return BAD;
        }
        if (!made || !states.isReached(at)) {
            return NONE;
        }
        Cells cells = states.row(at);
        return cells.holds(place) ? cells.kindAt(place) : NONE;
    }

    public int frame(int k) {
        return made ? frames.instructionOf(k) : NONE;
    }

    public int packed() {
        return made ? writing.length() : NONE;
    }

    public int out(int i) throws ArrayIndexOutOfBoundsException {
        if (!made || !writing.has(i)) {
            throw new ArrayIndexOutOfBoundsException("no such byte");
        }
        return writing.byteAt(i);
    }

    public int plant(int k, int place, int kind) {
        if (!made || frames.instructionOf(k) == NONE || !types.isPlain(kind)) {
            return BAD;
        }
        Cells given = frames.given(k);
        if (!given.holds(place)) {
            return BAD;
        }
        int old = given.kindAt(place);
        if (old == LONG || old == HALF) {
            return BAD;
        }
        given.put(place, kind);
        return old;
    }

    public int judge() {
        return made ? judging.firstWrong(beginning) : BAD;
    }

    public int joined(int one, int two) {
        return types.isKind(one) && types.isKind(two) ? types.join(one, two) : BAD;
    }

    public int goes(int one, int two) {
        if (!types.isKind(one) || !types.isKind(two)) {
            return BAD;
        }
        return types.standsFor(one, two) ? 1 : 0;
    }

    public int told(int what) {
        switch (what) {
            case 0:
                return types.count();
            case 1:
                return code.size();
            case 2:
                return code.handlers();
            case 3:
                return made ? frames.count() : 0;
            case 4:
                return made ? states.countReached() : 0;
            default:
                return BAD;
        }
    }

    /** A refused call leaves STATES and FRAMES as they are; any other one of the four that tell ends them. */
    private int changed(int answer) {
        if (answer >= 0) {
            made = false;
        }
        return answer;
    }

    private boolean isNumberFor(int op, int a) {
        switch (op) {
            case LOAD:
            case STORE:
                return a >= 0 && a < LOCALS;
            case LOAD2:
            case STORE2:
                return a >= 0 && a < LOCALS - 1;
            case BEGIN:
                return types.has(a) && !types.isFace(a);
            case CAST:
            case USE:
                return types.has(a);
            case IF:
            case SAME:
            case GO:
                return a >= 0 && a < MOST_INSTRUCTIONS;
            default:
                return op >= PUSH_INT && op <= THROW;
        }
    }

    private static boolean isBegun(int kind) {
        return kind >= BEGUN && kind < BEGUN + MOST_INSTRUCTIONS;
    }

    private static boolean isWhole(int kind) {
        return kind != TOP && kind != LONG && kind != HALF;
    }

    private static boolean isLong(int first, int second) {
        return first == LONG && second == HALF;
    }

    private static int takes(int op) {
        return op >= 0 && op < TAKES.length ? TAKES[op] : 0;
    }

    private static int gives(int op) {
        return op >= 0 && op < GIVES.length ? GIVES[op] : 0;
    }

    /** The TYPES, and what KINDS are to one another by them. */
    private static final class Types {
        /** By two TYPES, the first times MOST_TYPES: the nearest one that both are, or come from. */
        private final int[] shared = new int[MOST_TYPES * MOST_TYPES];
        private final boolean[] faces = new boolean[MOST_TYPES];
        private int count = 1;

        int count() {
            return count;
        }

        boolean has(int type) {
            return type >= 0 && type < count && type < MOST_TYPES;
        }

        boolean isFace(int type) {
            return type >= 0 && type < count && type < MOST_TYPES && faces[type];
        }

        int add(int parent, boolean face) {
            if (!has(parent) || isFace(parent) || (face && parent != 0)) {
                return BAD;
            }
            if (count >= MOST_TYPES) {
                return FULL;
            }
            int type = count;
            faces[type] = face;
            count++;
            share(type, type, type);
            for (int other = 0; other < type; other++) {
                // No TYPE that was there before comes from this one: with each it has what its PARENT has.
                share(type, other, nearest(parent, other));
                share(other, type, nearest(parent, other));
            }
            return type;
        }

        boolean isThing(int kind) {
            return kind >= THING && kind < THING + count;
        }

        boolean isReference(int kind) {
            return kind == NULL || (kind >= THING && kind < THING + count);
        }

        /** The KINDS that a caller may lay into one place by itself. */
        boolean isPlain(int kind) {
            return kind == TOP || kind == INT || isReference(kind);
        }

        boolean isKind(int kind) {
            return isPlain(kind) || kind == LONG || kind == HALF || isBegun(kind);
        }

        boolean standsFor(int one, int two) {
            if (one == two || two == TOP) {
                return true;
            }
            if (!isThing(two) || !isReference(one)) {
                return false;
            }
            int wanted = two - THING;
            return one == NULL || isFace(wanted) || nearest(one - THING, wanted) == wanted;
        }

        int join(int one, int two) {
            if (one == two) {
                return one;
            }
            if (!isReference(one) || !isReference(two)) {
                return TOP;
            }
            if (one == NULL) {
                return two;
            }
            return two == NULL ? one : THING + nearest(one - THING, two - THING);
        }

        private int nearest(int one, int two) {
            int cell = one * MOST_TYPES + two;
            return cell >= 0 && cell < shared.length ? shared[cell] : 0;
        }

        private void share(int one, int two, int type) {
            int cell = one * MOST_TYPES + two;
            if (cell >= 0 && cell < shared.length) {
                shared[cell] = type;
            }
        }
    }

    /** The INSTRUCTIONS and the HANDLERS. */
    private static final class Code {
        private final int[] ops = new int[MOST_INSTRUCTIONS];
        private final int[] numbers = new int[MOST_INSTRUCTIONS];
        private int size = 0;
        private final int[] froms = new int[MOST_HANDLERS];
        private final int[] tos = new int[MOST_HANDLERS];
        private final int[] starts = new int[MOST_HANDLERS];
        private final int[] caught = new int[MOST_HANDLERS];
        private int handlers = 0;

        int size() {
            return size;
        }

        int handlers() {
            return handlers;
        }

        boolean has(int at) {
            return at >= 0 && at < size && at < MOST_INSTRUCTIONS;
        }

        int add(int op, int a) {
            if (size >= MOST_INSTRUCTIONS) {
                return FULL;
            }
            ops[size] = op;
            numbers[size] = a;
            size++;
            return size - 1;
        }

        int addHandler(int from, int to, int at, int type) {
            if (handlers >= MOST_HANDLERS) {
                return FULL;
            }
            froms[handlers] = from;
            tos[handlers] = to;
            starts[handlers] = at;
            caught[handlers] = type;
            handlers++;
            return handlers - 1;
        }

        int opAt(int at) {
            return has(at) ? ops[at] : END;
        }

        int numberAt(int at) {
            return has(at) ? numbers[at] : 0;
        }

        boolean goesOn(int at) {
            return opAt(at) < GO;
        }

        boolean jumps(int at) {
            int op = opAt(at);
            return op >= IF && op <= GO;
        }

        boolean covers(int handler, int at) {
            return hasHandler(handler) && at >= froms[handler] && at < tos[handler];
        }

        int startOf(int handler) {
            return hasHandler(handler) ? starts[handler] : NONE;
        }

        int thingOf(int handler) {
            return hasHandler(handler) ? THING + caught[handler] : TOP;
        }

        private boolean hasHandler(int handler) {
            return handler >= 0 && handler < handlers && handler < MOST_HANDLERS;
        }
    }

    /** LOCALS and THE PILE: what lies in the places at one INSTRUCTION. */
    private static final class Cells {
        private final int[] kinds = new int[PLACES];
        private int height = 0;

        int height() {
            return height;
        }

        boolean holds(int place) {
            return place >= 0 && place < LOCALS + height && place < PLACES;
        }

        int kindAt(int place) {
            return place >= 0 && place < LOCALS + height && place < PLACES ? kinds[place] : TOP;
        }

        void put(int place, int kind) {
            if (place >= 0 && place < LOCALS + height && place < PLACES) {
                kinds[place] = kind;
            }
        }

        /** The KIND that lies so many places below the top one of THE PILE. */
        int fromTop(int below) {
            int place = LOCALS + height - 1 - below;
            return place >= LOCALS ? kindAt(place) : TOP;
        }

        void push(int kind) {
            if (height >= 0 && height < PILE) {
                kinds[LOCALS + height] = kind;
                height++;
            }
        }

        void pushLong() {
            push(LONG);
            push(HALF);
        }

        void drop(int many) {
            height = Math.max(0, height - many);
        }

        void store(int place, int kind) {
            breakLong(place);
            put(place, kind);
        }

        void storeLong(int place) {
            breakLong(place);
            breakLong(place + 1);
            put(place, LONG);
            put(place + 1, HALF);
        }

        void replaceAll(int kind, int by) {
            for (int place = 0; place < PLACES; place++) {
                if (kinds[place] == kind) {
                    kinds[place] = by;
                }
            }
        }

        void becomeTops(int newHeight) {
            height = Math.max(0, Math.min(PILE, newHeight));
            for (int place = 0; place < PLACES; place++) {
                kinds[place] = TOP;
            }
        }

        void becomeLike(Cells other) {
            height = other.height;
            System.arraycopy(other.kinds, 0, kinds, 0, PLACES);
        }

        /** What a HANDLER begins with: these LOCALS, and just its THING on THE PILE. */
        void becomeCaught(Cells ahead, int thing) {
            becomeLike(ahead);
            drop(PILE);
            push(thing);
        }

        /** Whether something became another by it. */
        boolean joinWith(Cells other, Types types) {
            boolean changed = false;
            for (int place = 0; place < PLACES && holds(place); place++) {
                int kind = types.join(kinds[place], other.kindAt(place));
                changed |= kind != kinds[place];
                kinds[place] = kind;
            }
            return changed;
        }

        boolean allStandFor(Cells other, Types types) {
            boolean fine = height == other.height;
            for (int place = 0; place < PLACES && holds(place) && fine; place++) {
                fine = types.standsFor(kinds[place], other.kindAt(place));
            }
            return fine;
        }

        /** The place of a LONG that will be lain over leaves its other one without a meaning. */
        private void breakLong(int place) {
            int kind = kindAt(place);
            if (kind == LONG && place + 1 < LOCALS) {
                put(place + 1, TOP);
            } else if (kind == HALF && place > 0) {
                put(place - 1, TOP);
            }
        }
    }

    /** What each OP wants, and what it does. */
    private static final class Machine {
        private final Types types;
        private final Code code;

        Machine(Types types, Code code) {
            this.types = types;
            this.code = code;
        }

        boolean suits(Cells cells, int at) {
            int op = code.opAt(at);
            int a = code.numberAt(at);
            int top = cells.fromTop(0);
            int below = cells.fromTop(1);
            switch (op) {
                case LOAD:
                    return isWhole(cells.kindAt(a));
                case LOAD2:
                    return isLong(cells.kindAt(a), cells.kindAt(a + 1));
                case STORE:
                case POP:
                case DUP:
                    return isWhole(top);
                case STORE2:
                    return isLong(below, top);
                case POP2:
                    return isLong(below, top) || (isWhole(below) && isWhole(top));
                case ADD:
                    return below == INT && top == INT;
                case ADD2:
                    return isLong(cells.fromTop(3), cells.fromTop(2)) && isLong(below, top);
                case MAKE:
                    return isBegun(top);
                case CAST:
                case THROW:
                    return types.isReference(top);
                case USE:
                    return types.isReference(top) && types.standsFor(top, THING + a);
                case IF:
                    return top == INT;
                case SAME:
                    return types.isReference(below) && types.isReference(top);
                default:
                    return true;
            }
        }

        /** The cells, which lay ahead of the INSTRUCTION, become those behind it. */
        void pass(Cells cells, int at) {
            if (suits(cells, at)) {
                work(cells, at);
            } else {
                int op = code.opAt(at);
                cells.becomeTops(cells.height() - takes(op) + gives(op));
            }
        }

        /** Asked for only where the cells suit. */
        void work(Cells cells, int at) {
            int op = code.opAt(at);
            int a = code.numberAt(at);
            int top = cells.fromTop(0);
            cells.drop(takes(op));
            switch (op) {
                case PUSH_INT:
                case ADD:
                    cells.push(INT);
                    break;
                case PUSH_LONG:
                case LOAD2:
                case ADD2:
                    cells.pushLong();
                    break;
                case PUSH_NULL:
                    cells.push(NULL);
                    break;
                case LOAD:
                    cells.push(cells.kindAt(a));
                    break;
                case STORE:
                    cells.store(a, top);
                    break;
                case STORE2:
                    cells.storeLong(a);
                    break;
                case DUP:
                    cells.push(top);
                    cells.push(top);
                    break;
                case BEGIN:
                    cells.replaceAll(BEGUN + at, TOP);
                    cells.push(BEGUN + at);
                    break;
                case MAKE:
                    cells.replaceAll(top, THING + code.numberAt(top - BEGUN));
                    break;
                case CAST:
                    cells.push(THING + a);
                    break;
                default:
                    break;
            }
        }
    }

    /** The FAULTS that are found by the sizes of THE PILE alone. */
    private static final class Sizes {
        private final Code code;
        /** By INSTRUCTION: bit s is set where a way comes with s places on THE PILE. */
        private final int[] seen = new int[MOST_INSTRUCTIONS];
        private final boolean[] waiting = new boolean[MOST_INSTRUCTIONS];
        private boolean changed;
        private int found;

        Sizes(Code code) {
            this.code = code;
        }

        /** The FAULT that was found, 0 if none. */
        int found() {
            return found;
        }

        /** Where the FAULT is, once the ways have been followed. */
        int lookForFault() {
            found = code.size() == 0 ? NO_INSTRUCTION : 0;
            int place = 0;
            for (int at = 0; at < MOST_INSTRUCTIONS && found == 0; at++) {
                found = faultAt(at);
                place = at;
            }
            return place;
        }

        void followWays() {
            for (int at = 0; at < MOST_INSTRUCTIONS; at++) {
                seen[at] = 0;
                waiting[at] = false;
            }
            come(0, 0);
            for (int round = 0; round < MOST_ROUNDS && changed; round++) {
                changed = false;
                for (int at = 0; at < MOST_INSTRUCTIONS; at++) {
                    if (waiting[at]) {
                        waiting[at] = false;
                        leave(at);
                    }
                }
            }
        }

        private int seenAt(int at) {
            return code.has(at) ? seen[at] : 0;
        }

        private void come(int at, int size) {
            if (code.has(at) && (seen[at] & 1 << size) == 0) {
                seen[at] |= 1 << size;
                waiting[at] = true;
                changed = true;
            }
        }

        private void leave(int at) {
            for (int size = 0; size <= PILE; size++) {
                if (comesWith(at, size) && fits(at, size)) {
                    goOn(at, size - takes(code.opAt(at)) + gives(code.opAt(at)));
                }
            }
            for (int handler = 0; handler < code.handlers(); handler++) {
                if (code.covers(handler, at)) {
                    come(code.startOf(handler), 1);
                }
            }
        }

        private void goOn(int at, int size) {
            if (code.goesOn(at)) {
                come(at + 1, size);
            }
            if (code.jumps(at)) {
                come(code.numberAt(at), size);
            }
        }

        private boolean comesWith(int at, int size) {
            return (seenAt(at) & 1 << size) != 0;
        }

        private boolean fits(int at, int size) {
            int left = size - takes(code.opAt(at));
            return left >= 0 && left + gives(code.opAt(at)) <= PILE;
        }

        private int faultAt(int at) {
            boolean someFit = false;
            boolean allFit = true;
            for (int size = 0; size <= PILE; size++) {
                boolean fits = fits(at, size);
                someFit |= comesWith(at, size) && fits;
                allFit &= !comesWith(at, size) || fits;
            }
            if ((someFit && leadsOut(at)) || (seenAt(at) != 0 && handlerLeadsOut(at))) {
                return NO_INSTRUCTION;
            }
            if (Integer.bitCount(seenAt(at)) > 1) {
                return UNLIKE_SIZES;
            }
            return allFit ? 0 : WRONG_SIZE;
        }

        private boolean leadsOut(int at) {
            return (code.goesOn(at) && !code.has(at + 1)) || (code.jumps(at) && !code.has(code.numberAt(at)));
        }

        private boolean handlerLeadsOut(int at) {
            boolean leads = false;
            for (int handler = 0; handler < code.handlers(); handler++) {
                leads |= code.covers(handler, at) && !code.has(code.startOf(handler));
            }
            return leads;
        }
    }

    /** Cells for every INSTRUCTION, made once for all calls. */
    private static final class Table {
        private final Cells[] rows = new Cells[MOST_INSTRUCTIONS];
        private final Cells beyond = new Cells();

        Table() {
            for (int row = 0; row < MOST_INSTRUCTIONS; row++) {
                rows[row] = new Cells();
            }
        }

        Cells row(int row) {
            return row >= 0 && row < MOST_INSTRUCTIONS ? rows[row] : beyond;
        }
    }

    /** The STATES of all INSTRUCTIONS that are REACHED. */
    private static final class States {
        private final Types types;
        private final Code code;
        private final Machine machine;
        private final Table table = new Table();
        private final boolean[] reached = new boolean[MOST_INSTRUCTIONS];
        private final boolean[] waiting = new boolean[MOST_INSTRUCTIONS];
        private final Cells hand = new Cells();
        private boolean changed;

        States(Types types, Code code, Machine machine) {
            this.types = types;
            this.code = code;
            this.machine = machine;
        }

        boolean isReached(int at) {
            return code.has(at) && reached[at];
        }

        Cells row(int at) {
            return table.row(at);
        }

        int countReached() {
            int count = 0;
            for (int at = 0; at < code.size(); at++) {
                count += isReached(at) ? 1 : 0;
            }
            return count;
        }

        /** Asked for only where the sizes of THE PILE have no FAULT. */
        void workOut(Cells beginning) {
            for (int at = 0; at < MOST_INSTRUCTIONS; at++) {
                reached[at] = false;
                waiting[at] = false;
            }
            meet(0, beginning);
            for (int round = 0; round < MOST_ROUNDS && changed; round++) {
                changed = false;
                for (int at = 0; at < MOST_INSTRUCTIONS; at++) {
                    if (waiting[at]) {
                        waiting[at] = false;
                        leave(at);
                    }
                }
            }
        }

        int firstUnsuited() {
            for (int at = 0; at < code.size(); at++) {
                if (isReached(at) && !machine.suits(row(at), at)) {
                    return at;
                }
            }
            return NONE;
        }

        private void leave(int at) {
            hand.becomeLike(row(at));
            machine.pass(hand, at);
            if (code.goesOn(at)) {
                meet(at + 1, hand);
            }
            if (code.jumps(at)) {
                meet(code.numberAt(at), hand);
            }
            for (int handler = 0; handler < code.handlers(); handler++) {
                if (code.covers(handler, at)) {
                    hand.becomeCaught(row(at), code.thingOf(handler));
                    meet(code.startOf(handler), hand);
                }
            }
        }

        private void meet(int at, Cells brought) {
            if (!code.has(at)) {
                return;
            }
            boolean isNew = !reached[at];
            if (isNew) {
                reached[at] = true;
                row(at).becomeLike(brought);
            }
            if (isNew || row(at).joinWith(brought, types)) {
                waiting[at] = true;
                changed = true;
            }
        }
    }

    /** The INSTRUCTIONS that have FRAMES, and the FRAMES as they are given to the judge. */
    private static final class Frames {
        private final Code code;
        private final States states;
        private final int[] instructions = new int[MOST_INSTRUCTIONS];
        private final int[] numbers = new int[MOST_INSTRUCTIONS];
        /** By INSTRUCTION: whether one that is REACHED tells it as its a, or has a HANDLER there. */
        private final boolean[] meant = new boolean[MOST_INSTRUCTIONS];
        private final Table given = new Table();
        private int count = 0;

        Frames(Code code, States states) {
            this.code = code;
            this.states = states;
        }

        int count() {
            return count;
        }

        int instructionOf(int k) {
            return k >= 0 && k < count && k < MOST_INSTRUCTIONS ? instructions[k] : NONE;
        }

        Cells given(int k) {
            return given.row(k);
        }

        /** The number of the FRAME that an INSTRUCTION has, or NONE. */
        int numberAt(int at) {
            return code.has(at) ? numbers[at] : NONE;
        }

        void gather() {
            for (int at = 0; at < MOST_INSTRUCTIONS; at++) {
                numbers[at] = NONE;
                meant[at] = false;
            }
            for (int at = 0; at < code.size(); at++) {
                if (states.isReached(at)) {
                    markWhatIsMeantBy(at);
                }
            }
            count = 0;
            for (int at = 0; at < MOST_INSTRUCTIONS; at++) {
                if (meant[at] && states.isReached(at)) {
                    add(at);
                }
            }
        }

        private void markWhatIsMeantBy(int at) {
            if (code.jumps(at)) {
                mark(code.numberAt(at));
            }
            for (int handler = 0; handler < code.handlers(); handler++) {
                if (code.covers(handler, at)) {
                    mark(code.startOf(handler));
                }
            }
        }

        private void mark(int at) {
            if (code.has(at)) {
                meant[at] = true;
            }
        }

        private void add(int at) {
            if (count < MOST_INSTRUCTIONS && code.has(at)) {
                instructions[count] = at;
                numbers[at] = count;
                given.row(count).becomeLike(states.row(at));
                count++;
            }
        }
    }

    /** What is WRITTEN of LOCALS or of THE PILE: a LONG and its HALF as one. */
    private static final class Entries {
        private final int[] kinds = new int[LOCALS];
        private int count = 0;

        int count() {
            return count;
        }

        int kindAt(int entry) {
            return entry >= 0 && entry < count && entry < LOCALS ? kinds[entry] : TOP;
        }

        void takeLocals(Cells cells) {
            take(cells, 0, LOCALS);
            int last = count;
            for (int entry = 0; entry < last && kindAt(count - 1) == TOP; entry++) {
                count--;
            }
        }

        void takePile(Cells cells) {
            take(cells, LOCALS, LOCALS + cells.height());
        }

        /** Whether both are alike as far as the shorter one goes. */
        boolean beginsAlike(Entries other) {
            boolean alike = true;
            for (int entry = 0; entry < count && entry < other.count; entry++) {
                alike &= kindAt(entry) == other.kindAt(entry);
            }
            return alike;
        }

        private void take(Cells cells, int from, int to) {
            count = 0;
            for (int place = from; place < to; place++) {
                int kind = cells.kindAt(place);
                if (kind != HALF && count < LOCALS) {
                    kinds[count] = kind;
                    count++;
                }
            }
        }
    }

    /** The bytes that the FRAMES are WRITTEN with. */
    private static final class Writing {
        private final int[] bytes = new int[MOST_BYTES];
        private int length = 0;
        private final Entries before = new Entries();
        private final Entries locals = new Entries();
        private final Entries pile = new Entries();

        int length() {
            return length;
        }

        boolean has(int i) {
            return i >= 0 && i < length && i < MOST_BYTES;
        }

        int byteAt(int i) {
            return has(i) ? bytes[i] : 0;
        }

        void write(Cells beginning, States states, Frames frames) {
            length = 0;
            int last = -1;
            before.takeLocals(beginning);
            for (int k = 0; k < frames.count(); k++) {
                int at = frames.instructionOf(k);
                Cells cells = states.row(at);
                locals.takeLocals(cells);
                pile.takePile(cells);
                writeOne(at - last - 1);
                before.takeLocals(cells);
                last = at;
            }
        }

        private void writeOne(int delta) {
            int more = locals.count() - before.count();
            boolean alike = locals.beginsAlike(before);
            boolean same = alike && more == 0;
            if (same && pile.count() == 0) {
                add(delta);
            } else if (same && pile.count() == 1) {
                add(ONE_ON_PILE + delta);
                addEntries(pile, 0);
            } else if (alike && pile.count() == 0 && Math.abs(more) <= MOST_LESS_OR_MORE) {
                add(LESS_OR_MORE + more);
                add(delta);
                addEntries(locals, before.count());
            } else {
                add(WHOLE);
                add(delta);
                add(locals.count());
                addEntries(locals, 0);
                add(pile.count());
                addEntries(pile, 0);
            }
        }

        private void addEntries(Entries entries, int from) {
            for (int entry = from; entry < entries.count(); entry++) {
                addKind(entries.kindAt(entry));
            }
        }

        private void addKind(int kind) {
            if (kind >= BEGUN) {
                add(BEGUN_ENTRY);
                add(kind - BEGUN);
            } else if (kind >= THING) {
                add(THING_ENTRY);
                add(kind - THING);
            } else {
                add(kind);
            }
        }

        private void add(int value) {
            if (length < MOST_BYTES) {
                bytes[length] = value;
                length++;
            }
        }
    }

    /** Goes through the INSTRUCTIONS once, by the FRAMES that are given. */
    private static final class Judge {
        private final Types types;
        private final Code code;
        private final Machine machine;
        private final Frames frames;
        private final Cells hand = new Cells();
        private final Cells caught = new Cells();
        private boolean atHand;

        Judge(Types types, Code code, Machine machine, Frames frames) {
            this.types = types;
            this.code = code;
            this.machine = machine;
            this.frames = frames;
        }

        int firstWrong(Cells beginning) {
            hand.becomeLike(beginning);
            atHand = true;
            for (int at = 0; at < code.size(); at++) {
                if (!takesFrame(at) || (atHand && !(handlersFit(at) && passes(at)))) {
                    return at;
                }
            }
            return NONE;
        }

        private boolean takesFrame(int at) {
            int k = frames.numberAt(at);
            if (k == NONE) {
                return true;
            }
            boolean fine = !atHand || hand.allStandFor(frames.given(k), types);
            hand.becomeLike(frames.given(k));
            atHand = true;
            return fine;
        }

        private boolean passes(int at) {
            if (!machine.suits(hand, at)) {
                return false;
            }
            machine.work(hand, at);
            atHand = code.goesOn(at);
            return !code.jumps(at) || fitsFrameOf(code.numberAt(at), hand);
        }

        private boolean handlersFit(int at) {
            boolean fine = true;
            for (int handler = 0; handler < code.handlers(); handler++) {
                if (code.covers(handler, at)) {
                    caught.becomeCaught(hand, code.thingOf(handler));
                    fine &= fitsFrameOf(code.startOf(handler), caught);
                }
            }
            return fine;
        }

        private boolean fitsFrameOf(int at, Cells cells) {
            int k = frames.numberAt(at);
            return k != NONE && cells.allStandFor(frames.given(k), types);
        }
    }
}
