import java.util.ArrayDeque;
import java.util.ArrayList;
import java.util.Arrays;
import java.util.Deque;
import java.util.List;
import java.util.Set;
import java.util.TreeSet;

/** Many programs, each answered by the class and by a second model that is written plainly and otherwise. */
public final class ModelTest {
    private static final int PROGRAMS = 60000;
    private static long seed = 20261116L;
    private static int wrong = 0;

    /** Always the same numbers: a test must fail again when it is run again. */
    private static int pick(int below) {
        seed = seed * 6364136223846793005L + 1442695040888963407L;
        return (int) ((seed >>> 33) % below);
    }

    private static void due(String what, Model m, int got, int want) {
        if (got != want && wrong++ < 10) {
            System.out.println(what + " answered " + got + ", due is " + want + " for " + m);
        }
    }

    /** The document once more: sets of sizes, lists of KINDS, ways followed in another order. */
    private static final class Model {
        final List<Integer> parents = new ArrayList<>(List.of(0));
        final List<Boolean> faces = new ArrayList<>(List.of(false));
        final List<int[]> ops = new ArrayList<>();
        final List<int[]> handlers = new ArrayList<>();
        final List<Integer> beginning = new ArrayList<>(List.of(0, 0, 0, 0, 0, 0, 0, 0));
        List<List<Integer>> states = new ArrayList<>();
        List<Integer> frames = new ArrayList<>();
        List<List<Integer>> given = new ArrayList<>();
        List<Integer> bytes = new ArrayList<>();
        int fault;

        List<Integer> ancestors(int type) {
            List<Integer> line = new ArrayList<>(List.of(type));
            while (type != 0) {
                type = parents.get(type);
                line.add(type);
            }
            return line;
        }

        boolean thing(int kind) {
            return kind >= 100 && kind < 200;
        }

        boolean goes(int one, int two) {
            return one == two || two == 0 || one == 4 && thing(two)
                || thing(one) && thing(two) && (faces.get(two - 100) || ancestors(one - 100).contains(two - 100));
        }

        int join(int one, int two) {
            if (one == two) {
                return one;
            }
            if (one == 4 && thing(two)) {
                return two;
            }
            if (two == 4 && thing(one)) {
                return one;
            }
            if (thing(one) && thing(two)) {
                List<Integer> line = ancestors(one - 100);
                line.retainAll(ancestors(two - 100));
                return 100 + line.get(0);
            }
            return 0;
        }

        /** By a text for each OP: what it takes, from the bottom up, and then what it gives. */
        static final String[] SHAPES = {">i", ">l", ">n", ">x", ">l", "x>", "l>", "x>", "?", "x>xx", "ii>i", "ll>l", ">b", "b>",
            "r>t", "u>", "i>", "rr>", ">", ">", "r>"};

        int width(String part) {
            int width = 0;
            for (char c : part.toCharArray()) {
                width += c == 'l' ? 2 : 1;
            }
            return width;
        }

        int takes(int at) {
            int op = ops.get(at)[0];
            return op == 8 ? 2 : width(SHAPES[op].split(">", -1)[0]);
        }

        int gives(int at) {
            int op = ops.get(at)[0];
            return op == 8 ? 0 : width(SHAPES[op].split(">", -1)[1]);
        }

        List<Integer> onward(int at) {
            List<Integer> next = new ArrayList<>();
            int[] op = ops.get(at);
            if (op[0] < 18) {
                next.add(at + 1);
            }
            if (op[0] >= 16 && op[0] <= 18) {
                next.add(op[1]);
            }
            return next;
        }

        List<int[]> handlersOf(int at) {
            List<int[]> found = new ArrayList<>();
            for (int[] h : handlers) {
                if (h[0] <= at && at < h[1]) {
                    found.add(h);
                }
            }
            return found;
        }

        /** 10 * place + FAULT, the least; -1: none. */
        int sizeFault() {
            if (ops.isEmpty()) {
                return 1;
            }
            Set<Integer> faults = new TreeSet<>();
            List<Set<Integer>> sizes = new ArrayList<>();
            for (int i = 0; i < ops.size(); i++) {
                sizes.add(new TreeSet<>());
            }
            Deque<int[]> open = new ArrayDeque<>();
            open.push(new int[] {0, 0, 0});
            while (!open.isEmpty()) {
                int[] way = open.pop();
                int at = way[0];
                if (at >= ops.size()) {
                    faults.add(10 * way[2] + 1);
                    continue;
                }
                if (!sizes.get(at).add(way[1])) {
                    continue;
                }
                if (sizes.get(at).size() > 1) {
                    faults.add(10 * at + 2);
                }
                for (int[] h : handlersOf(at)) {
                    open.push(new int[] {h[2], 1, at});
                }
                int left = way[1] - takes(at);
                if (left < 0 || left + gives(at) > 6) {
                    faults.add(10 * at + 3);
                    continue;
                }
                for (int next : onward(at)) {
                    open.push(new int[] {next, left + gives(at), at});
                }
            }
            return faults.isEmpty() ? -1 : faults.iterator().next();
        }

        boolean single(int kind) {
            return kind != 0 && kind != 2 && kind != 3;
        }

        boolean reference(int kind) {
            return kind == 4 || thing(kind);
        }

        /** Places behind the INSTRUCTION, or null where it finds what it does not want. */
        List<Integer> step(int at, List<Integer> ahead) {
            int op = ops.get(at)[0];
            int a = ops.get(at)[1];
            List<Integer> s = new ArrayList<>(ahead);
            int cut = s.size() - takes(at);
            List<Integer> taken = new ArrayList<>(s.subList(cut, s.size()));
            s.subList(cut, s.size()).clear();
            if (op == 8) {
                boolean fine = taken.equals(List.of(2, 3)) || single(taken.get(0)) && single(taken.get(1));
                return fine ? s : null;
            }
            String[] shape = SHAPES[op].split(">", -1);
            int i = 0;
            for (char c : shape[0].toCharArray()) {
                int kind = taken.get(i++);
                boolean fine = c == 'i' ? kind == 1 : c == 'x' ? single(kind) : c == 'r' ? reference(kind)
                    : c == 'u' ? reference(kind) && goes(kind, 100 + a) : c == 'b' ? kind >= 200 : kind == 2 && taken.get(i++) == 3;
                if (!fine) {
                    return null;
                }
            }
            if (op == 3 && !single(s.get(a)) || op == 4 && !s.subList(a, a + 2).equals(List.of(2, 3))) {
                return null;
            }
            if (op == 5 || op == 6) {
                lay(s, a, op == 5 ? taken.get(0) : 2);
            }
            if (op == 12) {
                s.replaceAll(kind -> kind == 200 + at ? 0 : kind);
            }
            if (op == 13) {
                int made = taken.get(0);
                s.replaceAll(kind -> kind == made ? 100 + ops.get(made - 200)[1] : kind);
            }
            for (char c : shape[1].toCharArray()) {
                s.add(c == 'i' ? 1 : c == 'n' ? 4 : c == 'b' ? 200 + at : c == 't' ? 100 + a : c == 'l' ? 2
                    : op == 3 ? ahead.get(a) : taken.get(0));
                if (c == 'l') {
                    s.add(3);
                }
            }
            return s;
        }

        /** Afterwards a LONG without its HALF, a HALF without its LONG, are TOP. */
        void lay(List<Integer> s, int place, int kind) {
            List<Integer> owner = new ArrayList<>();
            for (int i = 0; i < 8; i++) {
                owner.add(s.get(i) == 3 ? i - 1 : i);
            }
            int last = kind == 2 ? place + 1 : place;
            for (int i = 0; i < 8; i++) {
                boolean shares = false;
                for (int j = place; j <= last; j++) {
                    shares |= owner.get(i).equals(owner.get(j));
                }
                if (shares) {
                    s.set(i, 0);
                }
            }
            s.set(place, kind);
            if (kind == 2) {
                s.set(place + 1, 3);
            }
        }

        List<Integer> caught(List<Integer> ahead, int type) {
            List<Integer> s = new ArrayList<>(ahead.subList(0, 8));
            s.add(100 + type);
            return s;
        }

        void bring(int at, List<Integer> brought, Deque<Integer> open) {
            List<Integer> old = states.get(at);
            List<Integer> now = brought;
            if (old != null) {
                now = new ArrayList<>();
                for (int i = 0; i < old.size(); i++) {
                    now.add(join(old.get(i), brought.get(i)));
                }
            }
            if (!now.equals(old)) {
                states.set(at, now);
                open.push(at);
            }
        }

        int make() {
            states = new ArrayList<>();
            frames = new ArrayList<>();
            given = new ArrayList<>();
            bytes = new ArrayList<>();
            int bySize = sizeFault();
            fault = bySize < 0 ? 0 : bySize % 10;
            if (fault != 0) {
                return -10 - bySize / 10;
            }
            for (int i = 0; i < ops.size(); i++) {
                states.add(null);
            }
            Deque<Integer> open = new ArrayDeque<>();
            bring(0, beginning, open);
            while (!open.isEmpty()) {
                int at = open.pop();
                List<Integer> ahead = states.get(at);
                for (int[] h : handlersOf(at)) {
                    bring(h[2], caught(ahead, h[3]), open);
                }
                List<Integer> behind = step(at, ahead);
                if (behind == null) {
                    behind = new ArrayList<>();
                    for (int i = 0; i < ahead.size() - takes(at) + gives(at); i++) {
                        behind.add(0);
                    }
                }
                for (int next : onward(at)) {
                    bring(next, behind, open);
                }
            }
            for (int at = 0; at < ops.size(); at++) {
                if (states.get(at) != null && step(at, states.get(at)) == null) {
                    states = new ArrayList<>();
                    fault = 4;
                    return -10 - at;
                }
            }
            Set<Integer> places = new TreeSet<>();
            for (int at = 0; at < ops.size(); at++) {
                if (states.get(at) != null) {
                    int op = ops.get(at)[0];
                    if (op >= 16 && op <= 18) {
                        places.add(ops.get(at)[1]);
                    }
                    for (int[] h : handlersOf(at)) {
                        places.add(h[2]);
                    }
                }
            }
            frames.addAll(places);
            for (int at : frames) {
                given.add(new ArrayList<>(states.get(at)));
            }
            return frames.size();
        }

        /** The places that the bytes tell, read one by one; what they leave open is told by the one before. */
        String read(List<Integer> got) {
            Deque<Integer> in = new ArrayDeque<>(got);
            List<Integer> locals = entries(beginning.subList(0, 8), true);
            int last = -1;
            for (int at : frames) {
                List<Integer> state = states.get(at);
                List<Integer> dueLocals = entries(state.subList(0, 8), true);
                List<Integer> duePile = entries(state.subList(8, state.size()), false);
                List<Integer> pile = new ArrayList<>();
                int shortest = shortest(locals, dueLocals, duePile);
                int length = in.size();
                int tag = in.isEmpty() ? -1 : in.pop();
                int delta = tag < 0 ? -1 : tag < 64 ? tag : tag < 128 ? tag - 64 : in.pop();
                if (tag >= 64 && tag < 128) {
                    pile.add(entry(in));
                }
                if (tag >= 248 && tag < 251) {
                    locals = new ArrayList<>(locals.subList(0, locals.size() - (251 - tag)));
                }
                for (int k = 251; k < tag && tag < 255; k++) {
                    locals.add(entry(in));
                }
                if (tag == 255) {
                    locals = new ArrayList<>();
                    for (int n = in.pop(); n > 0; n--) {
                        locals.add(entry(in));
                    }
                    for (int n = in.pop(); n > 0; n--) {
                        pile.add(entry(in));
                    }
                }
                if (delta != at - last - 1 || !locals.equals(dueLocals) || !pile.equals(duePile)) {
                    return "another FRAME at " + at;
                }
                if (length - in.size() != shortest) {
                    return "not as short at " + at;
                }
                last = at;
            }
            return in.isEmpty() ? "" : "more bytes";
        }

        int shortest(List<Integer> before, List<Integer> locals, List<Integer> pile) {
            int more = locals.size() - before.size();
            int common = Math.min(locals.size(), before.size());
            boolean alike = locals.subList(0, common).equals(before.subList(0, common));
            if (alike && more == 0 && pile.size() < 2) {
                return 1 + bytesOf(pile);
            }
            if (alike && pile.isEmpty() && more >= -3 && more <= 3) {
                return 2 + bytesOf(locals.subList(common, locals.size()));
            }
            return 4 + bytesOf(locals) + bytesOf(pile);
        }

        int bytesOf(List<Integer> entries) {
            int count = 0;
            for (int kind : entries) {
                count += kind < 100 ? 1 : 2;
            }
            return count;
        }

        int entry(Deque<Integer> in) {
            int tag = in.isEmpty() ? -1 : in.pop();
            return tag == 7 ? 100 + in.pop() : tag == 8 ? 200 + in.pop() : tag;
        }

        List<Integer> entries(List<Integer> places, boolean cut) {
            List<Integer> all = new ArrayList<>(places);
            all.removeIf(kind -> kind == 3);
            while (cut && !all.isEmpty() && all.get(all.size() - 1) == 0) {
                all.remove(all.size() - 1);
            }
            return all;
        }

        boolean goesFor(List<Integer> one, int at) {
            int k = frames.indexOf(at);
            if (k < 0 || given.get(k).size() != one.size()) {
                return false;
            }
            for (int i = 0; i < one.size(); i++) {
                if (!goes(one.get(i), given.get(k).get(i))) {
                    return false;
                }
            }
            return true;
        }

        int judge() {
            List<Integer> hand = beginning;
            for (int at = 0; at < ops.size(); at++) {
                if (frames.contains(at)) {
                    if (hand != null && !goesFor(hand, at)) {
                        return at;
                    }
                    hand = given.get(frames.indexOf(at));
                }
                if (hand == null) {
                    continue;
                }
                List<Integer> behind = step(at, hand);
                boolean fine = behind != null;
                for (int[] h : handlersOf(at)) {
                    fine &= goesFor(caught(hand, h[3]), h[2]);
                }
                int[] op = ops.get(at);
                if (!fine || op[0] >= 16 && op[0] <= 18 && !goesFor(behind, op[1])) {
                    return at;
                }
                hand = op[0] >= 18 ? null : behind;
            }
            return FrameWriter.NONE;
        }

        @Override
        public String toString() {
            StringBuilder text = new StringBuilder("parents " + parents + " faces " + faces + " locals " + beginning + " ops");
            for (int[] op : ops) {
                text.append(Arrays.toString(op));
            }
            text.append(" handlers");
            for (int[] h : handlers) {
                text.append(Arrays.toString(h));
            }
            return text.toString();
        }
    }

    private static void fillBeginning(Model m) {
        int types = pick(8);
        for (int t = 0; t < types; t++) {
            boolean face = pick(4) == 0;
            int parent = face ? 0 : pick(m.parents.size());
            if (!m.faces.get(parent)) {
                m.parents.add(parent);
                m.faces.add(face);
            }
        }
        for (int n = pick(8); n > 0; n--) {
            int[] kinds = {0, 1, 2, 4, 100 + pick(m.parents.size()), 100 + pick(m.parents.size())};
            int kind = kinds[pick(6)];
            m.lay(m.beginning, pick(kind == 2 ? 7 : 8), kind);
        }
    }

    /** A program that often has no FAULT: short pieces that leave THE PILE as it was, and jumps to where pieces begin. */
    private static void fillByPieces(Model m) {
        fillBeginning(m);
        List<Integer> starts = new ArrayList<>();
        int length = 2 + pick(28);
        while (m.ops.size() < length) {
            starts.add(m.ops.size());
            piece(m);
        }
        starts.add(m.ops.size());
        m.ops.add(new int[] {19, 0});
        int handlers = pick(3) == 0 ? 1 + pick(3) : 0;
        for (int h = 0; h < handlers && m.ops.size() < 27; h++) {
            int from = pick(m.ops.size());
            m.handlers.add(new int[] {from, from + 1 + pick(4), m.ops.size(), pick(m.parents.size())});
            m.ops.add(new int[] {new int[] {5, 7, 20}[pick(3)], pick(8)});
            m.ops.add(new int[] {pick(2) == 0 ? 18 : 19, 0});
        }
        while (m.ops.size() > 30) {
            m.ops.remove(m.ops.size() - 1);
        }
        for (int[] op : m.ops) {
            if (op[0] >= 16 && op[0] <= 18) {
                op[1] = pick(40) == 0 ? pick(30) : starts.get(pick(starts.size())) % 30;
            }
        }
        if (pick(4) == 0) {
            m.ops.set(pick(m.ops.size()), anyOp(m));
        }
    }

    /** Any OPS that suit what lies there if one goes straight on; jumps, HANDLERS to wherever THE PILE is as high. */
    private static void fillByOps(Model m) {
        fillBeginning(m);
        int length = 3 + pick(28);
        List<List<Integer>> ahead = new ArrayList<>();
        List<Integer> here = m.beginning;
        while (m.ops.size() < length) {
            ahead.add(here);
            here = addSuited(m, ahead);
        }
        m.ops.set(length - 1, new int[] {19, 0});
        for (int at = 0; at < length; at++) {
            int[] op = m.ops.get(at);
            if (op[0] >= 16 && op[0] <= 18) {
                op[1] = anyOfHeight(ahead, ahead.get(at).size() - 8 - m.takes(at));
            }
        }
        for (int h = pick(4); h > 0; h--) {
            int from = pick(length);
            m.handlers.add(new int[] {from, from + 1 + pick(30 - from), anyOfHeight(ahead, 1), pick(m.parents.size())});
        }
    }

    /** What lies behind an OP that suits; behind one that does not go on, what may come there from elsewhere. */
    private static List<Integer> addSuited(Model m, List<List<Integer>> ahead) {
        int at = m.ops.size();
        List<Integer> here = ahead.get(at);
        List<Integer> elsewhere = ahead.get(pick(at + 1));
        for (int tries = 0; tries < 30; tries++) {
            int[] op = anyOp(m);
            if (op[0] >= 18 && pick(4) > 0) {
                continue; // else few INSTRUCTIONS would be REACHED
            }
            m.ops.add(op);
            int left = here.size() - 8 - m.takes(at);
            List<Integer> behind = left >= 0 && left + m.gives(at) <= 6 ? m.step(at, here) : null;
            if (behind != null) {
                return op[0] < 18 ? behind : pick(2) == 0 ? elsewhere : m.caught(elsewhere, pick(m.parents.size()));
            }
            m.ops.remove(at);
        }
        m.ops.add(new int[] {19, 0});
        return elsewhere;
    }

    private static int anyOfHeight(List<List<Integer>> ahead, int height) {
        List<Integer> found = new ArrayList<>();
        for (int at = 0; at < ahead.size(); at++) {
            if (ahead.get(at).size() == 8 + height) {
                found.add(at);
            }
        }
        return found.isEmpty() || pick(40) == 0 ? pick(30) : found.get(pick(found.size()));
    }

    private static void add(Model m, int... pairs) {
        for (int i = 0; i < pairs.length; i += 2) {
            m.ops.add(new int[] {pairs[i], pairs[i + 1]});
        }
    }

    private static int solidType(Model m) {
        int type = pick(m.parents.size());
        return m.faces.get(type) ? 0 : type;
    }

    private static void piece(Model m) {
        int local = pick(8);
        int other = pick(7);
        int type = pick(m.parents.size());
        switch (pick(14)) {
            case 0: add(m, 0, 0, 5, local); break;
            case 1: add(m, 1, 0, 6, other); break;
            case 2: add(m, 2, 0, 5, local); break;
            case 3: add(m, 2, 0, 14, type, 5, local); break;
            case 4: add(m, 12, solidType(m), 9, 0, 5, local, 13, 0); break;
            case 5: add(m, 12, solidType(m), 5, local); break;
            case 6: add(m, 0, 0, 16, 0); break;
            case 7: add(m, 2, 0, 9, 0, 17, 0); break;
            case 8: add(m, 0, 0, 9, 0, 10, 0, 7, 0); break;
            case 9: add(m, 1, 0, 1, 0, 11, 0, 8, 0); break;
            case 10: load(m, local, other); break;
            case 11: add(m, 0, 0, 16, 0, 18, 0); break;
            case 12: add(m, 12, solidType(m), 2, 0, 0, 0, 16, 0, 8, 0); break;
            default: add(m, 2, 0, 14, type, 15, m.ancestors(type).get(pick(m.ancestors(type).size()))); break;
        }
    }

    private static void load(Model m, int local, int other) {
        if (pick(3) == 0) {
            add(m, 1, 0, 6, other, 4, other, 8, 0);
        } else {
            add(m, pick(2) * 2, 0, 5, local, 3, local, 7, 0);
        }
    }

    private static int[] anyOp(Model m) {
        int op = pick(21);
        int a = op == 3 || op == 5 ? pick(8) : op == 4 || op == 6 ? pick(7) : op == 12 ? solidType(m)
            : op == 14 || op == 15 ? pick(m.parents.size()) : pick(30);
        return new int[] {op, a};
    }

    private static FrameWriter told(Model m) {
        FrameWriter x = new FrameWriter();
        for (int t = 1; t < m.parents.size(); t++) {
            due("type", m, x.type(m.parents.get(t), m.faces.get(t)), t);
        }
        for (int place = 0; place < 8; place++) {
            if (m.beginning.get(place) != 3) {
                due("local", m, x.local(place, m.beginning.get(place)), 1);
            }
        }
        for (int i = 0; i < m.ops.size(); i++) {
            due("op", m, x.op(m.ops.get(i)[0], m.ops.get(i)[1]), i);
        }
        for (int h = 0; h < m.handlers.size(); h++) {
            int[] handler = m.handlers.get(h);
            due("handler", m, x.handler(handler[0], handler[1], handler[2], handler[3]), h);
        }
        return x;
    }

    private static void compareStates(Model m, FrameWriter x) {
        int reached = 0;
        for (int at = 0; at < 30; at++) {
            List<Integer> state = at < m.states.size() ? m.states.get(at) : null;
            reached += state == null ? 0 : 1;
            for (int place = 0; place < 14; place++) {
                int want = state == null || place >= state.size() ? FrameWriter.NONE : state.get(place);
                due("state(" + at + ", " + place + ")", m, x.state(at, place), want);
            }
        }
        due("told(4)", m, x.told(4), reached);
    }

    private static void compareFrames(Model m, FrameWriter x) {
        for (int k = 0; k <= m.frames.size(); k++) {
            due("frame(" + k + ")", m, x.frame(k), k < m.frames.size() ? m.frames.get(k) : FrameWriter.NONE);
        }
    }

    private static void compareBytes(Model m, FrameWriter x) {
        List<Integer> got = new ArrayList<>();
        int length = x.packed();
        for (int i = 0; i < length; i++) {
            got.add(x.out(i));
        }
        String complaint = m.read(got);
        if (!complaint.isEmpty() && wrong++ < 10) {
            System.out.println(complaint + ": " + got + " for " + m);
        }
    }

    private static void comparePlants(Model m, FrameWriter x) {
        due("judge() without plants", m, x.judge(), FrameWriter.NONE);
        for (int n = 0; n < 12 && !m.frames.isEmpty(); n++) {
            int k = pick(m.frames.size());
            int place = pick(10);
            int[] kinds = {0, 1, 4, 100 + pick(m.parents.size())};
            int kind = kinds[pick(4)];
            List<Integer> frame = m.given.get(k);
            boolean bad = place >= frame.size() || frame.get(place) == 2 || frame.get(place) == 3;
            due("plant", m, x.plant(k, place, kind), bad ? FrameWriter.BAD : frame.get(place));
            int old = bad ? 0 : frame.get(place);
            if (!bad) {
                frame.set(place, kind);
            }
            due("judge()", m, x.judge(), m.judge());
            if (!bad) {
                int at = m.frames.get(k);
                due("state(" + at + ", " + place + ") behind plant()", m, x.state(at, place), m.states.get(at).get(place));
            }
            if (!bad && pick(3) > 0 && old < 200) {
                x.plant(k, place, old);
                frame.set(place, old);
            }
        }
        compareBytes(m, x);
    }

    /** The answer is looked at, and an object is used for 512 calls at most: so each comparison has one of its own. */
    private static FrameWriter made(Model m, int want) {
        FrameWriter x = told(m);
        due("make()", m, x.make(), want);
        return x;
    }

    public static void main(String[] args) {
        int[] faults = new int[5];
        for (int n = 0; n < PROGRAMS; n++) {
            Model m = new Model();
            if (n % 2 == 0) {
                fillByPieces(m);
            } else {
                fillByOps(m);
            }
            int want = m.make();
            faults[m.fault]++;
            compareStates(m, made(m, want));
            FrameWriter x = made(m, want);
            due("fault()", m, x.fault(), m.fault);
            compareFrames(m, x);
            if (m.fault == 0) {
                compareBytes(m, x);
                comparePlants(m, made(m, want));
            } else {
                due("packed()", m, x.packed(), FrameWriter.NONE);
                due("judge()", m, x.judge(), FrameWriter.BAD);
            }
        }
        System.out.println("programs by FAULT: " + Arrays.toString(faults) + ", answers not as due: " + wrong);
        boolean enough = true;
        for (int count : faults) {
            enough &= count > PROGRAMS / 200;
        }
        if (wrong != 0 || !enough) {
            System.exit(1);
        }
    }
}
