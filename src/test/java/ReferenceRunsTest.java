import java.util.ArrayDeque;
import java.util.ArrayList;
import java.util.Collections;
import java.util.Comparator;
import java.util.List;
import java.util.Random;

/**
 * Long runs of calls by fixed seeds, each answer held against a plain model
 * that follows the document sentence by sentence and works out everything
 * anew at each call.
 */
public final class ReferenceRunsTest {
    private static final int RUNS = 1500;
    private static final int CALLS = 512;

    public static void main(String[] args) {
        for (int seed = 0; seed < RUNS; seed++) {
            String fault = run(seed);
            if (fault != null) {
                System.out.println("seed " + seed + ": " + fault);
                System.exit(1);
            }
        }
        System.out.println(RUNS + " runs answered as the model");
    }

    private static String run(int seed) {
        Random random = new Random(seed);
        Habits habits = new Habits(random);
        TreemapLayout layout = new TreemapLayout();
        Model model = new Model();
        for (int call = 0; call < CALLS; call++) {
            int kind = habits.kind(random, call);
            int a = habits.first(random, kind, model);
            int b = habits.second(random, kind, model);
            long got = ask(layout, kind, a, b);
            long want = model.answer(kind, a, b);
            if (got != want) {
                return "call " + call + ", " + NAMES[kind] + "(" + a + ", " + b + ") answered "
                        + got + ", due is " + want;
            }
        }
        return null;
    }

    private static final String[] NAMES = {"addNode", "setSize", "removeLeaf", "setParent", "setCanvas",
        "setPadding", "setMode", "nodeCount", "size", "parent", "depth", "leafCount", "x", "y", "width",
        "height", "isHidden", "nodeAt", "leafPixels", "worstAspect", "averageAspect", "changeBy", "undo",
        "errorCount", "digest"};

    private static long ask(TreemapLayout t, int kind, int a, int b) {
        switch (kind) {
            case 0: return t.addNode(a, b);
            case 1: return t.setSize(a, b);
            case 2: return t.removeLeaf(a);
            case 3: return t.setParent(a, b);
            case 4: return t.setCanvas(a, b);
            case 5: return t.setPadding(a);
            case 6: return t.setMode(a);
            case 7: return t.nodeCount();
            case 8: return t.size(a);
            case 9: return t.parent(a);
            case 10: return t.depth(a);
            case 11: return t.leafCount();
            case 12: return t.x(a);
            case 13: return t.y(a);
            case 14: return t.width(a);
            case 15: return t.height(a);
            case 16: return t.isHidden(a);
            case 17: return t.nodeAt(a, b);
            case 18: return t.leafPixels();
            case 19: return t.worstAspect();
            case 20: return t.averageAspect();
            case 21: return t.changeBy(a, b);
            case 22: return t.undo();
            case 23: return t.errorCount(a);
            default: return t.digest();
        }
    }

    /** What kind of arguments a run likes: narrow or wide canvases, like or unlike sizes, flat or deep trees. */
    private static final class Habits {
        private final int greatestSide;
        private final int greatestSize;
        private final boolean flat;
        private final int growth;
        private boolean digestNext;

        Habits(Random random) {
            greatestSide = random.nextInt(3) == 0 ? 12 : 200;
            greatestSize = random.nextInt(3) == 0 ? 3 : 99;
            flat = random.nextInt(3) == 0;
            growth = 2 + random.nextInt(8);
        }

        int kind(Random random, int call) {
            if (digestNext) {
                digestNext = false;
                return 24;
            }
            int kind = random.nextInt(10) < growth && call < 60 ? 0 : random.nextInt(25);
            // Removals and undos would keep the tree small.
            if ((kind == 2 || kind == 22) && random.nextInt(3) > 0) {
                kind = 0;
            }
            digestNext = kind <= 6 || kind == 22;
            return kind;
        }

        private int odd(Random random) {
            int[] odd = {-1, 0, 24, 100, 201, 4, 3, Integer.MAX_VALUE, Integer.MIN_VALUE};
            return odd[random.nextInt(odd.length)];
        }

        int first(Random random, int kind, Model model) {
            if (random.nextInt(25) == 0) {
                return odd(random);
            }
            switch (kind) {
                case 0: return flat && random.nextInt(4) > 0 ? 0 : random.nextInt(model.own.size());
                case 4: return 1 + random.nextInt(greatestSide);
                case 5: return random.nextInt(4);
                case 6: case 23: return random.nextInt(3);
                case 17: return random.nextInt(model.canvasWidth);
                default: return random.nextInt(model.own.size());
            }
        }

        int second(Random random, int kind, Model model) {
            if (random.nextInt(25) == 0) {
                return odd(random);
            }
            switch (kind) {
                case 0: case 1: case 21: return 1 + random.nextInt(greatestSize);
                case 3: return random.nextInt(model.own.size());
                case 4: return 1 + random.nextInt(greatestSide);
                case 17: return random.nextInt(model.canvasHeight);
                default: return 0;
            }
        }
    }

    private static final class Rect {
        final int x;
        final int y;
        final int w;
        final int h;

        Rect(int x, int y, int w, int h) {
            this.x = x;
            this.y = y;
            this.w = w;
            this.h = h;
        }
    }

    private static final class Model {
        List<Integer> own = new ArrayList<>(List.of(1));
        List<Integer> parents = new ArrayList<>(List.of(-1));
        int canvasWidth = 100;
        int canvasHeight = 60;
        int padding = 0;
        int mode = 1;
        final ArrayDeque<Model> stack = new ArrayDeque<>();
        final int[] errors = new int[3];

        private Model copy() {
            Model copy = new Model();
            copy.take(this);
            return copy;
        }

        private void take(Model other) {
            own = new ArrayList<>(other.own);
            parents = new ArrayList<>(other.parents);
            canvasWidth = other.canvasWidth;
            canvasHeight = other.canvasHeight;
            padding = other.padding;
            mode = other.mode;
        }

        private void save() {
            stack.addLast(copy());
            if (stack.size() > 4) {
                stack.removeFirst();
            }
        }

        long answer(int kind, int a, int b) {
            if (isInvalid(kind, a, b)) {
                errors[0]++;
                return -2;
            }
            if (isRejected(kind, a, b)) {
                errors[1]++;
                return -3;
            }
            if (kind == 0 && own.size() == 24) {
                errors[2]++;
                return -4;
            }
            return kind <= 6 ? change(kind, a, b) : tell(kind, a, b);
        }

        private boolean isInvalid(int kind, int a, int b) {
            boolean noNode = a < 0 || a >= own.size();
            switch (kind) {
                case 0: case 1: case 21: return noNode || b < 1 || b > 99;
                case 3: return noNode || b < 0 || b >= own.size();
                case 4: return a < 1 || a > 200 || b < 1 || b > 200;
                case 5: return a < 0 || a > 3;
                case 6: case 23: return a < 0 || a > 2;
                case 17: return a < 0 || a >= canvasWidth || b < 0 || b >= canvasHeight;
                case 2: case 8: case 9: case 10: case 12: case 13: case 14: case 15: case 16: return noNode;
                default: return false;
            }
        }

        private boolean isRejected(int kind, int a, int b) {
            if (kind == 2) {
                return a == 0 || parents.contains(a);
            }
            if (kind == 3) {
                return a == 0 || b == a || descendants(a).contains(b);
            }
            return kind == 22 && stack.isEmpty();
        }

        private List<Integer> descendants(int node) {
            List<Integer> found = new ArrayList<>();
            for (int child : children(node)) {
                found.add(child);
                found.addAll(descendants(child));
            }
            return found;
        }

        private List<Integer> children(int node) {
            List<Integer> found = new ArrayList<>();
            for (int child = 0; child < own.size(); child++) {
                if (parents.get(child) == node) {
                    found.add(child);
                }
            }
            return found;
        }

        private long change(int kind, int a, int b) {
            save();
            int previous;
            switch (kind) {
                case 0:
                    own.add(b);
                    parents.add(a);
                    return own.size() - 1;
                case 1:
                    return own.set(a, b);
                case 2:
                    own.remove(a);
                    parents.remove(a);
                    parents.replaceAll(p -> p > a ? p - 1 : p);
                    return own.size();
                case 3:
                    return parents.set(a, b);
                case 4:
                    previous = canvasWidth * 1000 + canvasHeight;
                    canvasWidth = a;
                    canvasHeight = b;
                    return previous;
                case 5:
                    previous = padding;
                    padding = a;
                    return previous;
                default:
                    previous = mode;
                    mode = a;
                    return previous;
            }
        }

        private long tell(int kind, int a, int b) {
            Rect[] rects = layOut();
            switch (kind) {
                case 7: return own.size();
                case 8: return sizeOf(a);
                case 9: return parents.get(a);
                case 10: return depthOf(a);
                case 11: return leaves().size();
                case 12: return seen(rects, a).x;
                case 13: return seen(rects, a).y;
                case 14: return seen(rects, a).w;
                case 15: return seen(rects, a).h;
                case 16: return rects[a] == null ? 1 : 0;
                case 17: return deepestAt(rects, a, b);
                case 18: return leaves().stream().mapToInt(n -> seen(rects, n).w * seen(rects, n).h).sum();
                case 19: return worst(rects);
                case 20: return average(rects);
                case 21: return changeBy(rects, a, b);
                case 22:
                    take(stack.removeLast());
                    return stack.size();
                case 23: return errors[a];
                default: return hash(rects);
            }
        }

        private int sizeOf(int node) {
            List<Integer> children = children(node);
            return children.isEmpty() ? own.get(node) : children.stream().mapToInt(this::sizeOf).sum();
        }

        private int depthOf(int node) {
            return node == 0 ? 0 : 1 + depthOf(parents.get(node));
        }

        private List<Integer> leaves() {
            List<Integer> found = new ArrayList<>();
            for (int node = 0; node < own.size(); node++) {
                if (!parents.contains(node)) {
                    found.add(node);
                }
            }
            return found;
        }

        private static Rect seen(Rect[] rects, int node) {
            return rects[node] == null ? new Rect(0, 0, 0, 0) : rects[node];
        }

        private int deepestAt(Rect[] rects, int px, int py) {
            int node = 0;
            boolean deeper = true;
            while (deeper) {
                deeper = false;
                for (int child : children(node)) {
                    Rect r = seen(rects, child);
                    if (px >= r.x && py >= r.y && px < r.x + r.w && py < r.y + r.h) {
                        node = child;
                        deeper = true;
                        break;
                    }
                }
            }
            return node;
        }

        private List<Float> aspects(Rect[] rects) {
            List<Float> found = new ArrayList<>();
            for (int leaf : leaves()) {
                Rect r = seen(rects, leaf);
                if (r.w > 0 && r.h > 0) {
                    found.add((float) Math.max(r.w, r.h) / (float) Math.min(r.w, r.h));
                }
            }
            return found;
        }

        private int worst(Rect[] rects) {
            List<Float> aspects = aspects(rects);
            return aspects.isEmpty() ? -1 : Float.floatToIntBits(Collections.max(aspects));
        }

        private int average(Rect[] rects) {
            List<Float> aspects = aspects(rects);
            float sum = 0f;
            for (float aspect : aspects) {
                sum = sum + aspect;
            }
            return aspects.isEmpty() ? -1 : Float.floatToIntBits(sum / (float) aspects.size());
        }

        private int changeBy(Rect[] rects, int node, int size) {
            Model other = copy();
            other.own.set(node, size);
            Rect[] changed = other.layOut();
            int sum = 0;
            for (int i = 0; i < own.size(); i++) {
                Rect p = seen(rects, i);
                Rect q = seen(changed, i);
                sum += Math.abs(p.x - q.x) + Math.abs(p.y - q.y) + Math.abs(p.w - q.w) + Math.abs(p.h - q.h);
            }
            return sum;
        }

        private long hash(Rect[] rects) {
            List<Integer> values = new ArrayList<>(List.of(errors[0], errors[1], errors[2], stack.size(),
                    canvasWidth, canvasHeight, padding, mode, own.size()));
            for (int node = 0; node < own.size(); node++) {
                Rect r = seen(rects, node);
                values.addAll(List.of(own.get(node), sizeOf(node), parents.get(node),
                        r.x, r.y, r.w, r.h, rects[node] == null ? 1 : 0));
            }
            values.add((int) tell(18, 0, 0));
            values.add(worst(rects));
            values.add(average(rects));
            long h = 11759;
            for (int v : values) {
                h = 31 * h + v;
            }
            return h;
        }

        /** The rectangle of each node; null for a hidden one. */
        private Rect[] layOut() {
            Rect[] rects = new Rect[own.size()];
            rects[0] = new Rect(0, 0, canvasWidth, canvasHeight);
            layOutBelow(0, rects);
            return rects;
        }

        private void layOutBelow(int node, Rect[] rects) {
            Rect r = rects[node];
            Rect inner = new Rect(r.x + padding, r.y + padding, r.w - 2 * padding, r.h - 2 * padding);
            List<Integer> children = children(node);
            if (inner.w < 1 || inner.h < 1 || children.isEmpty()) {
                return;
            }
            if (mode == 0) {
                line(children, inner, depthOf(node) % 2 == 0, rects);
            } else if (mode == 1) {
                strips(children, inner, rects);
            } else {
                squarified(children, inner, rects);
            }
            for (int child : children) {
                layOutBelow(child, rects);
            }
        }

        private int total(List<Integer> nodes) {
            return nodes.stream().mapToInt(this::sizeOf).sum();
        }

        private static int[] apportioned(int length, List<Integer> sizes) {
            int total = sizes.stream().mapToInt(Integer::intValue).sum();
            int[] pixels = new int[sizes.size()];
            List<Integer> byRemainder = new ArrayList<>();
            int left = length;
            for (int i = 0; i < pixels.length; i++) {
                pixels[i] = sizes.get(i) * length / total;
                left -= pixels[i];
                byRemainder.add(i);
            }
            byRemainder.sort(Comparator.comparingInt(i -> -(sizes.get(i) * length % total)));
            for (int i : byRemainder.subList(0, left)) {
                pixels[i]++;
            }
            return pixels;
        }

        private List<Integer> sizesOf(List<Integer> nodes) {
            List<Integer> sizes = new ArrayList<>();
            for (int node : nodes) {
                sizes.add(sizeOf(node));
            }
            return sizes;
        }

        private void line(List<Integer> nodes, Rect area, boolean leftToRight, Rect[] rects) {
            int[] pixels = apportioned(leftToRight ? area.w : area.h, sizesOf(nodes));
            int at = leftToRight ? area.x : area.y;
            for (int i = 0; i < pixels.length; i++) {
                rects[nodes.get(i)] = leftToRight ? new Rect(at, area.y, pixels[i], area.h)
                        : new Rect(area.x, at, area.w, pixels[i]);
                at += pixels[i];
            }
        }

        private List<Float> ratios(List<Integer> group, float unit, int side) {
            float t = (float) total(group) * unit / (float) side;
            List<Float> found = new ArrayList<>();
            for (int node : group) {
                float l = (float) sizeOf(node) * unit / t;
                found.add(Math.max(l / t, t / l));
            }
            return found;
        }

        private float averageOf(List<Float> ratios) {
            float sum = 0f;
            for (float ratio : ratios) {
                sum = sum + ratio;
            }
            return sum / (float) ratios.size();
        }

        private static List<Integer> with(List<Integer> nodes, int node) {
            List<Integer> longer = new ArrayList<>(nodes);
            longer.add(node);
            return longer;
        }

        private void strips(List<Integer> nodes, Rect inner, Rect[] rects) {
            float unit = (float) (inner.w * inner.h) / (float) total(nodes);
            List<List<Integer>> strips = new ArrayList<>();
            List<Integer> strip = List.of();
            for (int node : nodes) {
                List<Integer> longer = with(strip, node);
                boolean joins = !strip.isEmpty() && averageOf(ratios(longer, unit, inner.w))
                        <= averageOf(ratios(strip, unit, inner.w));
                if (joins) {
                    strips.set(strips.size() - 1, longer);
                } else {
                    strips.add(List.of(node));
                }
                strip = strips.get(strips.size() - 1);
            }
            List<Integer> totals = new ArrayList<>();
            for (List<Integer> each : strips) {
                totals.add(total(each));
            }
            int[] heights = apportioned(inner.h, totals);
            int y = inner.y;
            for (int i = 0; i < heights.length; i++) {
                line(strips.get(i), new Rect(inner.x, y, inner.w, heights[i]), true, rects);
                y += heights[i];
            }
        }

        private void squarified(List<Integer> nodes, Rect inner, Rect[] rects) {
            List<Integer> left = new ArrayList<>(nodes);
            left.sort(Comparator.<Integer>comparingInt(n -> -sizeOf(n)).thenComparingInt(n -> n));
            Rect free = inner;
            while (!left.isEmpty()) {
                if (free.w == 0 || free.h == 0) {
                    for (int node : left) {
                        rects[node] = new Rect(free.x, free.y, 0, 0);
                    }
                    return;
                }
                int t = total(left);
                boolean sideIsHeight = free.h <= free.w;
                int side = sideIsHeight ? free.h : free.w;
                int length = sideIsHeight ? free.w : free.h;
                float unit = (float) (free.w * free.h) / (float) t;
                List<Integer> row = List.of(left.remove(0));
                while (!left.isEmpty() && Collections.max(ratios(with(row, left.get(0)), unit, side))
                        <= Collections.max(ratios(row, unit, side))) {
                    row = with(row, left.remove(0));
                }
                int thick = left.isEmpty() ? length : (2 * total(row) * length + t) / (2 * t);
                if (sideIsHeight) {
                    line(row, new Rect(free.x, free.y, thick, free.h), false, rects);
                    free = new Rect(free.x + thick, free.y, free.w - thick, free.h);
                } else {
                    line(row, new Rect(free.x, free.y, free.w, thick), true, rects);
                    free = new Rect(free.x, free.y + thick, free.w, free.h - thick);
                }
            }
        }
    }
}
