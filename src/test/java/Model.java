import java.util.ArrayList;
import java.util.List;
import java.util.Set;
import java.util.TreeSet;

// The document read once more, with objects and sets in place of numbers and masks, to compare answers with.
final class Model implements Calls {
    private record Ins(int op, int a, int b, int c) { }

    private record Triple(int n, int i, Set<Integer> known) {
        static final Triple NULLV = new Triple(1, 0, Set.of());

        Triple join(Triple other) {
            Set<Integer> both = new TreeSet<>(known);
            both.retainAll(other.known);
            return new Triple(Math.max(n, other.n), i == other.i ? i : 2, both);
        }

        Triple without(int f) {
            Set<Integer> less = new TreeSet<>(known);
            less.remove(f);
            return new Triple(n, i, less);
        }

        Triple with(int f) {
            Set<Integer> more = new TreeSet<>(known);
            more.add(f);
            return new Triple(n, i, more);
        }

        Triple asNonNull() {
            return new Triple(0, i, known);
        }

        int number() {
            int bits = 0;
            for (int f : known) {
                bits += 1 << f;
            }
            return n + 2 * i + 8 * bits;
        }
    }

    private record Edge(int to, List<Triple> state) { }

    private static final class Frame {
        int block;
        int pc;
        int destination = -1;
        int own = -1;
        final int[] locals = {-1, -1, -1, -1, -1, -1, -1, -1};
    }

    private final int codeCap;
    private final int heapCap;
    private final int maxDepth;
    private final int[] kinds = {1, 1, 1, 1};
    private final int[] nullness = {1, 1, 1, 1};
    private final int[] init = {0, 0, 0, 0};
    private final List<List<Ins>> blocks = new ArrayList<>();
    private int selected = 0;

    private int checker = 30;
    private int where = -1;
    private final List<List<List<Triple>>> solutions = new ArrayList<>();

    private int status = 20;
    private final List<int[]> objects = new ArrayList<>();
    private final List<Frame> frames = new ArrayList<>();
    private final List<Integer> outputs = new ArrayList<>();

    Model(int codeCap, int heapCap, int maxDepth) {
        this.codeCap = Math.min(32, Math.max(8, codeCap));
        this.heapCap = Math.min(32, Math.max(8, heapCap));
        this.maxDepth = Math.min(8, Math.max(1, maxDepth));
        for (int block = 0; block < 4; block++) {
            blocks.add(new ArrayList<>());
        }
    }

    private boolean edited() {
        checker = 30;
        status = 20;
        objects.clear();
        frames.clear();
        outputs.clear();
        return true;
    }

    @Override public boolean declareField(int f, int kind) {
        if (f < 0 || f > 3 || kind < 0 || kind > 1) {
            return false;
        }
        kinds[f] = kind;
        return edited();
    }

    @Override public boolean declareParam(int k, int n, int i) {
        if (k < 1 || k > 3 || n < 0 || n > 1 || i < 0 || i > 2) {
            return false;
        }
        nullness[k] = n;
        init[k] = i;
        return edited();
    }

    @Override public boolean select(int block) {
        if (block < 0 || block > 3) {
            return false;
        }
        selected = block;
        return true;
    }

    // The operands of each op as letters, in the order a, b, c.
    private static final String[] OPERANDS = {"l", "ll", "lkl", "llf", "lfl", "lt", "lt", "t", "", "l"};

    @Override public boolean emit(int op, int a, int b, int c) {
        if (op < 0 || op > 9 || blocks.get(selected).size() == codeCap) {
            return false;
        }
        int[] given = {a, b, c};
        int[] kept = new int[3];
        for (int j = 0; j < OPERANDS[op].length(); j++) {
            char letter = OPERANDS[op].charAt(j);
            int least = letter == 'k' ? 1 : 0;
            int most = letter == 'l' ? 7 : letter == 't' ? codeCap : 3;
            if (given[j] < least || given[j] > most) {
                return false;
            }
            kept[j] = given[j];
        }
        blocks.get(selected).add(new Ins(op, kept[0], kept[1], kept[2]));
        return edited();
    }

    private List<Triple> entry(int block) {
        List<Triple> state = new ArrayList<>();
        for (int local = 0; local < 8; local++) {
            state.add(Triple.NULLV);
        }
        if (block > 0) {
            state.set(0, new Triple(0, 1, Set.of()));
            state.set(1, new Triple(nullness[block], init[block], Set.of()));
        }
        return state;
    }

    private static List<Triple> changed(List<Triple> state, int local, Triple value) {
        List<Triple> next = new ArrayList<>(state);
        next.set(local, value);
        return next;
    }

    private List<Edge> edges(Ins ins, int p, int len, List<Triple> s) {
        List<Edge> all = new ArrayList<>();
        int a = ins.a;
        int b = ins.b;
        int c = ins.c;
        switch (ins.op) {
            case 0 -> all.add(new Edge(p + 1, changed(s, a, Triple.NULLV)));
            case 1 -> all.add(new Edge(p + 1, changed(s, a, s.get(b))));
            case 2 -> {
                List<Triple> next = new ArrayList<>(s);
                for (int f = 0; f < 4; f++) {
                    int gone = f;
                    if (kinds[f] == 1) {
                        next.replaceAll(t -> t.without(gone));
                    }
                }
                all.add(new Edge(p + 1, changed(next, a, new Triple(0, s.get(c).i, Set.of()))));
            }
            case 3 -> {
                int n = kinds[c] == 0 || s.get(b).known.contains(c) ? 0 : 1;
                all.add(new Edge(p + 1, changed(s, a, new Triple(n, s.get(b).i == 0 ? 0 : 2, Set.of()))));
            }
            case 4 -> {
                List<Triple> next = new ArrayList<>(s);
                if (s.get(c).n == 0) {
                    next.set(a, s.get(a).with(b));
                } else {
                    next.replaceAll(t -> t.without(b));
                }
                all.add(new Edge(p + 1, next));
            }
            case 5, 6 -> {
                int ifNull = ins.op == 5 ? b : p + 1;
                int ifNot = ins.op == 5 ? p + 1 : b;
                all.add(new Edge(ifNot, changed(s, a, s.get(a).asNonNull())));
                if (s.get(a).n == 1) {
                    all.add(new Edge(ifNull, changed(s, a, Triple.NULLV)));
                }
            }
            case 7 -> all.add(new Edge(a, s));
            case 8 -> all.add(new Edge(len, s));
            default -> all.add(new Edge(p + 1, s));
        }
        return all;
    }

    // All points are made anew from the last round's, from UNREACHED upwards, until a round changes none.
    private List<List<Triple>> solved(int block) {
        List<Ins> code = blocks.get(block);
        List<List<Triple>> now = new ArrayList<>();
        for (int p = 0; p <= code.size(); p++) {
            now.add(null);
        }
        while (true) {
            List<List<Triple>> next = new ArrayList<>();
            for (int p = 0; p <= code.size(); p++) {
                next.add(p == 0 ? entry(block) : null);
            }
            for (int p = 0; p < code.size(); p++) {
                if (now.get(p) == null) {
                    continue;
                }
                for (Edge edge : edges(code.get(p), p, code.size(), now.get(p))) {
                    int to = Math.min(edge.to, code.size());
                    next.set(to, joined(next.get(to), edge.state));
                }
            }
            if (next.equals(now)) {
                return now;
            }
            now = next;
        }
    }

    private static List<Triple> joined(List<Triple> one, List<Triple> other) {
        if (one == null) {
            return other;
        }
        List<Triple> both = new ArrayList<>();
        for (int local = 0; local < 8; local++) {
            both.add(one.get(local).join(other.get(local)));
        }
        return both;
    }

    private int error(int block, Ins ins, List<Triple> s) {
        int a = ins.a;
        int b = ins.b;
        int c = ins.c;
        if (block > 0 && ins.op <= 3 && a == 0) {
            return 1;
        }
        if (ins.op == 2) {
            if (nullness[b] == 0 && s.get(c).n == 1) {
                return 2;
            }
            return init[b] < 2 && s.get(c).i != init[b] ? 3 : 0;
        }
        if (ins.op == 3) {
            if (s.get(b).n == 1) {
                return 4;
            }
            return kinds[c] == 0 && s.get(b).i != 0 && !s.get(b).known.contains(c) ? 5 : 0;
        }
        if (ins.op == 4) {
            if (s.get(a).n == 1) {
                return 4;
            }
            if (kinds[b] == 0 && s.get(c).n == 1) {
                return 6;
            }
            return s.get(a).i != 1 && s.get(c).i != 0 ? 7 : 0;
        }
        return 0;
    }

    private int errorAtEnd(int block, List<Triple> s) {
        for (int f = 0; f < 4; f++) {
            if (block > 0 && kinds[f] == 0 && !s.get(0).known.contains(f)) {
                return 8;
            }
        }
        return 0;
    }

    @Override public int check() {
        solutions.clear();
        int found = 0;
        where = -1;
        for (int block = 0; block < 4; block++) {
            List<Ins> code = blocks.get(block);
            List<List<Triple>> points = solved(block);
            solutions.add(points);
            for (int p = 0; p <= code.size(); p++) {
                if (found != 0 || points.get(p) == null) {
                    continue;
                }
                found = p == code.size()
                        ? errorAtEnd(block, points.get(p))
                        : error(block, code.get(p), points.get(p));
                where = found == 0 ? -1 : 64 * block + p;
            }
        }
        checker = found == 0 ? 31 : 32;
        objects.clear();
        outputs.clear();
        frames.clear();
        frames.add(new Frame());
        status = 21;
        return found;
    }

    @Override public int errorWhere() {
        return checker == 32 ? where : -1;
    }

    @Override public int state(int block, int pc, int local) {
        if (checker == 30 || block < 0 || block > 3 || pc < 0 || pc > blocks.get(block).size()
                || local < 0 || local > 7) {
            return -2;
        }
        List<Triple> s = solutions.get(block).get(pc);
        return s == null ? -1 : s.get(local).number();
    }

    @Override public int run(int steps) {
        if (checker == 30) {
            return 20;
        }
        for (int left = Math.min(steps, 10000); left > 0 && status == 21; left--) {
            step(frames.get(frames.size() - 1));
        }
        return status;
    }

    private void step(Frame top) {
        List<Ins> code = blocks.get(top.block);
        Ins ins = top.pc < code.size() ? code.get(top.pc) : new Ins(8, 0, 0, 0);
        int[] l = top.locals;
        int trap = trap(ins, l);
        if (trap != 0) {
            status = trap;
            return;
        }
        if (ins.op == 8) {
            giveBack(top);
            return;
        }
        top.pc++;
        switch (ins.op) {
            case 0 -> l[ins.a] = -1;
            case 1 -> l[ins.a] = l[ins.b];
            case 2 -> {
                Frame frame = new Frame();
                frame.block = ins.b;
                frame.destination = ins.a;
                frame.own = objects.size();
                frame.locals[0] = objects.size();
                frame.locals[1] = l[ins.c];
                frames.add(frame);
                objects.add(new int[] {-1, -1, -1, -1});
            }
            case 3 -> l[ins.a] = objects.get(l[ins.b])[ins.c];
            case 4 -> objects.get(l[ins.a])[ins.b] = l[ins.c];
            case 5 -> top.pc = l[ins.a] < 0 ? ins.b : top.pc;
            case 6 -> top.pc = l[ins.a] < 0 ? top.pc : ins.b;
            case 7 -> top.pc = ins.a;
            default -> {
                if (outputs.size() < 16) {
                    outputs.add(l[ins.a]);
                }
            }
        }
    }

    private int trap(Ins ins, int[] l) {
        if (ins.op == 2) {
            if (l[ins.c] < 0 && nullness[ins.b] == 0) {
                return 24;
            }
            if (frames.size() == maxDepth) {
                return 25;
            }
            return objects.size() == heapCap ? 26 : 0;
        }
        if (ins.op == 3) {
            if (l[ins.b] < 0) {
                return 23;
            }
            return kinds[ins.c] == 0 && objects.get(l[ins.b])[ins.c] < 0 ? 24 : 0;
        }
        if (ins.op == 4) {
            if (l[ins.a] < 0) {
                return 23;
            }
            return kinds[ins.b] == 0 && l[ins.c] < 0 ? 24 : 0;
        }
        return 0;
    }

    private void giveBack(Frame top) {
        if (frames.size() == 1) {
            status = 22;
            return;
        }
        frames.remove(frames.size() - 1);
        frames.get(frames.size() - 1).locals[top.destination] = top.own;
    }

    @Override public int info(int k) {
        if (k < 0 || k > 19) {
            return -2;
        }
        if (k < 4) {
            return kinds[k];
        }
        if (k < 7) {
            return nullness[k - 3];
        }
        if (k < 10) {
            return init[k - 6];
        }
        if (k < 14) {
            return blocks.get(k - 10).size();
        }
        return new int[] {selected, checker, status, objects.size(), outputs.size(), frames.size()}[k - 14];
    }

    @Override public int code(int block, int pc, int part) {
        if (block < 0 || block > 3 || pc < 0 || pc >= blocks.get(block).size() || part < 0 || part > 3) {
            return -2;
        }
        Ins ins = blocks.get(block).get(pc);
        return new int[] {ins.op, ins.a, ins.b, ins.c}[part];
    }

    @Override public int frame(int fr, int slot) {
        if (fr < 0 || fr >= frames.size() || slot < 0 || slot > 11) {
            return -2;
        }
        Frame f = frames.get(fr);
        return slot < 8 ? f.locals[slot] : new int[] {f.block, f.pc, f.destination, f.own}[slot - 8];
    }

    @Override public int field(int o, int f) {
        return o < 0 || o >= objects.size() || f < 0 || f > 3 ? -2 : objects.get(o)[f];
    }

    @Override public int out(int i) {
        return i < 0 || i >= outputs.size() ? -2 : outputs.get(i);
    }
}
