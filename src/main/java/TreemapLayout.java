/**
 * A treemap layout engine: the leaves of a tree are drawn as rectangles whose
 * areas are proportional to their sizes, exact in pixels.
 *
 * The layout is made anew after each change of the state, so that every
 * question is answered from finished rows. All rows are made with the object;
 * no call makes a further object.
 */
public final class TreemapLayout {
    public static final int NONE = -1;
    public static final int INVALID = -2;
    public static final int REJECTED = -3;
    public static final int FULL = -4;
    public static final int SLICE = 0, STRIP = 1, SQUARIFIED = 2;

    private static final int ROOT = 0;
    private static final int MAX_NODES = 24;
    private static final int MAX_SIZE = 99;
    private static final int MAX_SIDE = 200;
    private static final int MAX_PADDING = 3;
    private static final int MAX_SAVED = 4;

    private final State state = new State();
    private final Layout layout = new Layout();
    private final UndoStack saved = new UndoStack();
    private final State trialState = new State();
    private final Layout trialLayout = new Layout();
    private int invalidCalls;
    private int rejectedCalls;
    private int fullCalls;

    public TreemapLayout() {
        layout.arrange(state);
    }

    public int addNode(int parent, int size) {
        if (!state.has(parent) || !isSize(size)) {
            return failInvalid();
        }
        if (state.count >= MAX_NODES) {
            return failFull();
        }
        saved.push(state);
        state.append(parent, size);
        layout.arrange(state);
        return state.count - 1;
    }

    public int setSize(int node, int size) {
        if (!state.has(node) || !isSize(size)) {
            return failInvalid();
        }
        saved.push(state);
        int previous = state.ownSizes[node];
        state.ownSizes[node] = size;
        layout.arrange(state);
        return previous;
    }

    public int removeLeaf(int node) {
        if (!state.has(node)) {
            return failInvalid();
        }
        if (node == ROOT || !layout.isLeaf(node)) {
            return failRejected();
        }
        saved.push(state);
        state.takeOut(node);
        layout.arrange(state);
        return state.count;
    }

    public int setParent(int node, int parent) {
        if (!state.has(node) || !state.has(parent)) {
            return failInvalid();
        }
        if (node == ROOT || state.isWithin(parent, node)) {
            return failRejected();
        }
        saved.push(state);
        int previous = state.parents[node];
        state.parents[node] = parent;
        layout.arrange(state);
        return previous;
    }

    public int setCanvas(int width, int height) {
        if (!isSide(width) || !isSide(height)) {
            return failInvalid();
        }
        saved.push(state);
        int previous = 1000 * state.canvasWidth + state.canvasHeight;
        state.canvasWidth = width;
        state.canvasHeight = height;
        layout.arrange(state);
        return previous;
    }

    public int setPadding(int padding) {
        if (padding < 0 || padding > MAX_PADDING) {
            return failInvalid();
        }
        saved.push(state);
        int previous = state.padding;
        state.padding = padding;
        layout.arrange(state);
        return previous;
    }

    public int setMode(int mode) {
        if (mode != SLICE && mode != STRIP && mode != SQUARIFIED) {
            return failInvalid();
        }
        saved.push(state);
        int previous = state.mode;
        state.mode = mode;
        layout.arrange(state);
        return previous;
    }

    public int nodeCount() {
        return state.count;
    }

    public int size(int node) {
        return state.has(node) ? layout.sizes[node] : failInvalid();
    }

    public int parent(int node) {
        return state.has(node) ? state.parents[node] : failInvalid();
    }

    public int depth(int node) {
        return state.has(node) ? layout.depths[node] : failInvalid();
    }

    public int leafCount() {
        int leaves = 0;
        for (int node = 0; node < state.count; node++) {
            if (layout.isLeaf(node)) {
                leaves++;
            }
        }
        return leaves;
    }

    public int x(int node) {
        return state.has(node) ? layout.rects.lefts[node] : failInvalid();
    }

    public int y(int node) {
        return state.has(node) ? layout.rects.tops[node] : failInvalid();
    }

    public int width(int node) {
        return state.has(node) ? layout.rects.widths[node] : failInvalid();
    }

    public int height(int node) {
        return state.has(node) ? layout.rects.heights[node] : failInvalid();
    }

    public int isHidden(int node) {
        return state.has(node) ? hiddenFlag(node) : failInvalid();
    }

    public int nodeAt(int px, int py) {
        if (px < 0 || px >= state.canvasWidth || py < 0 || py >= state.canvasHeight) {
            return failInvalid();
        }
        int deepest = ROOT;
        for (int node = 0; node < state.count; node++) {
            if (layout.rects.contain(node, px, py) && layout.depths[node] > layout.depths[deepest]) {
                deepest = node;
            }
        }
        return deepest;
    }

    public int leafPixels() {
        int pixels = 0;
        for (int node = 0; node < state.count; node++) {
            if (layout.isLeaf(node)) {
                pixels += layout.rects.area(node);
            }
        }
        return pixels;
    }

    public int worstAspect() {
        float worst = 0f;
        for (int node = 0; node < state.count; node++) {
            if (layout.isLeafWithArea(node)) {
                float aspect = layout.rects.aspect(node);
                worst = aspect >= worst ? aspect : worst;
            }
        }
        return worst > 0f ? floatBits(worst) : NONE;
    }

    public int averageAspect() {
        float sum = 0f;
        int leaves = 0;
        for (int node = 0; node < state.count; node++) {
            if (layout.isLeafWithArea(node)) {
                sum += layout.rects.aspect(node);
                leaves++;
            }
        }
        return leaves > 0 ? floatBits(sum / (float) leaves) : NONE;
    }

    public int changeBy(int node, int size) {
        if (!state.has(node) || !isSize(size)) {
            return failInvalid();
        }
        trialState.copyFrom(state);
        trialState.ownSizes[node] = size;
        trialLayout.arrange(trialState);
        int change = 0;
        for (int other = 0; other < state.count; other++) {
            change += layout.rects.difference(other, trialLayout.rects);
        }
        return change;
    }

    public int undo() {
        if (saved.count <= 0) {
            return failRejected();
        }
        saved.popInto(state);
        layout.arrange(state);
        return saved.count;
    }

    public int errorCount(int kind) {
        switch (kind) {
            case 0:
                return invalidCalls;
            case 1:
                return rejectedCalls;
            case 2:
                return fullCalls;
            default:
                return failInvalid();
        }
    }

    public long digest() {
        long hash = 11759L;
        hash = mix(hash, invalidCalls);
        hash = mix(hash, rejectedCalls);
        hash = mix(hash, fullCalls);
        hash = mix(hash, saved.count);
        hash = mix(hash, state.canvasWidth);
        hash = mix(hash, state.canvasHeight);
        hash = mix(hash, state.padding);
        hash = mix(hash, state.mode);
        hash = mix(hash, state.count);
        for (int node = 0; node < state.count; node++) {
            hash = mixNode(hash, node);
        }
        hash = mix(hash, leafPixels());
        hash = mix(hash, worstAspect());
        return mix(hash, averageAspect());
    }

    private long mixNode(long start, int node) {
        long hash = mix(start, state.ownSizes[node]);
        hash = mix(hash, layout.sizes[node]);
        hash = mix(hash, state.parents[node]);
        hash = mix(hash, layout.rects.lefts[node]);
        hash = mix(hash, layout.rects.tops[node]);
        hash = mix(hash, layout.rects.widths[node]);
        hash = mix(hash, layout.rects.heights[node]);
        return mix(hash, hiddenFlag(node));
    }

    private static long mix(long hash, int value) {
        return 31L * hash + value;
    }

    private int hiddenFlag(int node) {
        return layout.hidden[node] ? 1 : 0;
    }

    private int failInvalid() {
        invalidCalls++;
        return INVALID;
    }

    private int failRejected() {
        rejectedCalls++;
        return REJECTED;
    }

    private int failFull() {
        fullCalls++;
        return FULL;
    }

    private static boolean isSize(int value) {
        return value >= 1 && value <= MAX_SIZE;
    }

    private static boolean isSide(int value) {
        return value >= 1 && value <= MAX_SIDE;
    }

    /**
     * The bits of a float from 1 up. LANGUAGE.md leaves out Float.floatToIntBits;
     * halving and the product with 2^23 are exact, so nothing is lost here.
     */
    private static int floatBits(float value) {
        float mantissa = value;
        int exponent = 0;
        while (mantissa >= 2f && exponent < 127) {
            mantissa = mantissa / 2f;
            exponent++;
        }
        int fraction = (int) (mantissa * 8388608f) - 8388608;
        return ((127 + exponent) << 23) + fraction;
    }

    /** What the undo stack saves: the tree, the canvas, the padding and the mode. */
    private static final class State {
        final int[] ownSizes = new int[MAX_NODES];
        final int[] parents = new int[MAX_NODES];
        int count = 1;
        int canvasWidth = 100;
        int canvasHeight = 60;
        int padding = 0;
        int mode = STRIP;

        State() {
            ownSizes[ROOT] = 1;
            parents[ROOT] = NONE;
        }

        void copyFrom(State other) {
            System.arraycopy(other.ownSizes, 0, ownSizes, 0, MAX_NODES);
            System.arraycopy(other.parents, 0, parents, 0, MAX_NODES);
            count = other.count;
            canvasWidth = other.canvasWidth;
            canvasHeight = other.canvasHeight;
            padding = other.padding;
            mode = other.mode;
        }

        boolean has(int node) {
            return node >= 0 && node < count;
        }

        boolean isWithin(int node, int ancestor) {
            int current = node;
            for (int step = 0; step < MAX_NODES && has(current); step++) {
                if (current == ancestor) {
                    return true;
                }
                current = parents[current];
            }
            return false;
        }

        void append(int parentNode, int ownSize) {
            if (count < MAX_NODES) {
                ownSizes[count] = ownSize;
                parents[count] = parentNode;
                count++;
            }
        }

        void takeOut(int node) {
            if (!has(node) || node == ROOT) {
                return;
            }
            for (int next = node + 1; next < count; next++) {
                ownSizes[next - 1] = ownSizes[next];
                parents[next - 1] = parents[next];
            }
            count--;
            for (int other = 0; other < count; other++) {
                if (parents[other] > node) {
                    parents[other]--;
                }
            }
        }
    }

    /** The latest saved states, in a ring whose slots are used again. */
    private static final class UndoStack {
        private final State[] slots = new State[MAX_SAVED];
        private int next;
        int count;

        UndoStack() {
            for (int slot = 0; slot < MAX_SAVED; slot++) {
                slots[slot] = new State();
            }
        }

        void push(State current) {
            slots[next].copyFrom(current);
            next = next + 1 < MAX_SAVED ? next + 1 : 0;
            count = count < MAX_SAVED ? count + 1 : MAX_SAVED;
        }

        void popInto(State target) {
            if (count > 0) {
                next = next > 0 ? next - 1 : MAX_SAVED - 1;
                count--;
                target.copyFrom(slots[next]);
            }
        }
    }

    /** The finished layout of one state: what follows from it for each node. */
    private static final class Layout {
        final int[] sizes = new int[MAX_NODES];
        final int[] depths = new int[MAX_NODES];
        final boolean[] hidden = new boolean[MAX_NODES];
        final Rects rects = new Rects();
        // Parents stand before their children here, and the children of one
        // node stand together by rising number: from its first child on.
        private final int[] order = new int[MAX_NODES];
        private final int[] firstChildren = new int[MAX_NODES];
        private final int[] childCounts = new int[MAX_NODES];
        private final Placer placer = new Placer();

        boolean isLeaf(int node) {
            return childCounts[node] == 0;
        }

        boolean isLeafWithArea(int node) {
            return isLeaf(node) && rects.area(node) > 0;
        }

        void arrange(State state) {
            orderNodes(state);
            sumSizes(state);
            rects.put(ROOT, 0, 0, state.canvasWidth, state.canvasHeight);
            hidden[ROOT] = false;
            for (int i = 0; i < state.count; i++) {
                placeChildren(order[i], state);
            }
        }

        private void orderNodes(State state) {
            order[0] = ROOT;
            depths[ROOT] = 0;
            int end = 1;
            for (int i = 0; i < state.count; i++) {
                int node = order[i];
                firstChildren[node] = end;
                for (int child = 1; child < state.count; child++) {
                    if (state.parents[child] == node && end < MAX_NODES) {
                        depths[child] = depths[node] + 1;
                        order[end] = child;
                        end++;
                    }
                }
                childCounts[node] = end - firstChildren[node];
            }
        }

        private void sumSizes(State state) {
            for (int i = state.count - 1; i >= 0; i--) {
                int node = order[i];
                int sum = 0;
                int end = firstChildren[node] + childCounts[node];
                for (int j = firstChildren[node]; j < end; j++) {
                    sum += sizes[order[j]];
                }
                sizes[node] = isLeaf(node) ? state.ownSizes[node] : sum;
            }
        }

        private void placeChildren(int node, State state) {
            int gap = state.padding;
            placer.open(rects.lefts[node] + gap, rects.tops[node] + gap,
                    rects.widths[node] - 2 * gap, rects.heights[node] - 2 * gap);
            // The rectangle of a hidden node is empty, so its children are hidden, too.
            boolean noRoom = placer.hasNoRoom();
            int end = firstChildren[node] + childCounts[node];
            for (int i = firstChildren[node]; i < end; i++) {
                int child = order[i];
                hidden[child] = noRoom;
                rects.put(child, 0, 0, 0, 0);
                placer.add(child, sizes[child]);
            }
            if (noRoom || isLeaf(node)) {
                return;
            }
            switch (state.mode) {
                case SLICE:
                    placer.slice(depths[node] % 2 == 0, rects);
                    break;
                case STRIP:
                    placer.strip(rects);
                    break;
                default:
                    placer.squarify(rects);
                    break;
            }
        }
    }

    /** The rectangles of all nodes. */
    private static final class Rects {
        final int[] lefts = new int[MAX_NODES];
        final int[] tops = new int[MAX_NODES];
        final int[] widths = new int[MAX_NODES];
        final int[] heights = new int[MAX_NODES];

        void put(int node, int left, int top, int wide, int high) {
            lefts[node] = left;
            tops[node] = top;
            widths[node] = wide;
            heights[node] = high;
        }

        boolean contain(int node, int px, int py) {
            return px >= lefts[node] && px < lefts[node] + widths[node]
                    && py >= tops[node] && py < tops[node] + heights[node];
        }

        int area(int node) {
            return widths[node] * heights[node];
        }

        float aspect(int node) {
            int greater = Math.max(widths[node], heights[node]);
            int smaller = Math.min(widths[node], heights[node]);
            return smaller > 0 ? (float) greater / (float) smaller : 0f;
        }

        int difference(int node, Rects other) {
            return Math.abs(lefts[node] - other.lefts[node])
                    + Math.abs(tops[node] - other.tops[node])
                    + Math.abs(widths[node] - other.widths[node])
                    + Math.abs(heights[node] - other.heights[node]);
        }
    }

    /** A rectangle that changes while children are placed. */
    private static final class Box {
        int left;
        int top;
        int wide;
        int high;

        void set(int newLeft, int newTop, int newWide, int newHigh) {
            left = newLeft;
            top = newTop;
            wide = newWide;
            high = newHigh;
        }

        boolean isEmpty() {
            return wide < 1 || high < 1;
        }
    }

    /** Parts of a length: their sizes and, once apportioned, their pixels. */
    private static final class Shares {
        private final int[] partSizes = new int[MAX_NODES];
        private final int[] remainders = new int[MAX_NODES];
        final int[] pixels = new int[MAX_NODES];
        int count;

        void clear() {
            count = 0;
        }

        void add(int partSize) {
            if (count < MAX_NODES) {
                partSizes[count] = partSize;
                count++;
            }
        }

        void apportion(int length) {
            int total = 0;
            for (int i = 0; i < count; i++) {
                total += partSizes[i];
            }
            if (total <= 0) {
                return;
            }
            int left = length;
            for (int i = 0; i < count; i++) {
                pixels[i] = partSizes[i] * length / total;
                remainders[i] = partSizes[i] * length % total;
                left -= pixels[i];
            }
            for (int given = 0; given < left && given < count; given++) {
                int part = largestRemainder();
                pixels[part]++;
                remainders[part] = -1;
            }
        }

        private int largestRemainder() {
            int largest = 0;
            for (int i = 1; i < count; i++) {
                if (remainders[i] > remainders[largest]) {
                    largest = i;
                }
            }
            return largest;
        }
    }

    /** Places the children of one node at a time in its inner rectangle. */
    private static final class Placer {
        private final int[] kids = new int[MAX_NODES];
        private final int[] kidSizes = new int[MAX_NODES];
        private int kidCount;
        private final Box free = new Box();
        private final Box band = new Box();
        private final Shares kidShares = new Shares();
        private final Shares stripShares = new Shares();
        private final int[] stripEnds = new int[MAX_NODES];

        void open(int left, int top, int wide, int high) {
            kidCount = 0;
            free.set(left, top, wide, high);
        }

        boolean hasNoRoom() {
            return free.isEmpty();
        }

        void add(int kid, int kidSize) {
            if (kidCount < MAX_NODES) {
                kids[kidCount] = kid;
                kidSizes[kidCount] = kidSize;
                kidCount++;
            }
        }

        void slice(boolean sideBySide, Rects rects) {
            band.set(free.left, free.top, free.wide, free.high);
            fillBand(0, kidCount, sideBySide, rects);
        }

        void strip(Rects rects) {
            splitIntoStrips();
            stripShares.apportion(free.high);
            int from = 0;
            int top = free.top;
            for (int i = 0; i < stripShares.count; i++) {
                band.set(free.left, top, free.wide, stripShares.pixels[i]);
                fillBand(from, stripEnds[i], true, rects);
                top += band.high;
                from = stripEnds[i];
            }
        }

        private void splitIntoStrips() {
            float unit = pixelsPerSize(0);
            stripShares.clear();
            int from = 0;
            for (int end = 1; end <= kidCount; end++) {
                boolean isComplete = end == kidCount
                        || averageRatio(from, end + 1, unit) > averageRatio(from, end, unit);
                if (isComplete && stripShares.count < MAX_NODES) {
                    stripEnds[stripShares.count] = end;
                    stripShares.add(sumOfSizes(from, end));
                    from = end;
                }
            }
        }

        private float averageRatio(int from, int end, float unit) {
            float thickness = thicknessOf(sumOfSizes(from, end), unit, free.wide);
            float sum = 0f;
            for (int i = from; i < end; i++) {
                sum += ratio(kidSizes[i], unit, thickness);
            }
            return end > from ? sum / (float) (end - from) : 0f;
        }

        void squarify(Rects rects) {
            sortByFallingSize();
            int from = 0;
            for (int row = 0; row < kidCount && from < kidCount; row++) {
                if (free.isEmpty()) {
                    collapse(from, rects);
                    return;
                }
                int end = endOfRow(from);
                boolean isColumn = free.high <= free.wide;
                cutBand(from, end, isColumn);
                fillBand(from, end, !isColumn, rects);
                from = end;
            }
        }

        private void sortByFallingSize() {
            for (int i = 1; i < kidCount; i++) {
                int kid = kids[i];
                int kidSize = kidSizes[i];
                int place = i;
                // Equal sizes are not passed: the lower number stays in front.
                while (place > 0 && kidSizes[place - 1] < kidSize) {
                    kids[place] = kids[place - 1];
                    kidSizes[place] = kidSizes[place - 1];
                    place--;
                }
                kids[place] = kid;
                kidSizes[place] = kidSize;
            }
        }

        private int endOfRow(int from) {
            float unit = pixelsPerSize(from);
            int side = Math.min(free.wide, free.high);
            float worst = worstRatio(from, from + 1, unit, side);
            for (int end = from + 1; end < kidCount; end++) {
                float next = worstRatio(from, end + 1, unit, side);
                if (next > worst) {
                    return end;
                }
                worst = next;
            }
            return kidCount;
        }

        private float worstRatio(int from, int end, float unit, int side) {
            float thickness = thicknessOf(sumOfSizes(from, end), unit, side);
            float worst = 0f;
            for (int i = from; i < end; i++) {
                float next = ratio(kidSizes[i], unit, thickness);
                worst = next >= worst ? next : worst;
            }
            return worst;
        }

        private void cutBand(int from, int end, boolean isColumn) {
            if (isColumn) {
                int thickness = rowThickness(from, end, free.wide);
                band.set(free.left, free.top, thickness, free.high);
                free.left += thickness;
                free.wide -= thickness;
            } else {
                int thickness = rowThickness(from, end, free.high);
                band.set(free.left, free.top, free.wide, thickness);
                free.top += thickness;
                free.high -= thickness;
            }
        }

        private int rowThickness(int from, int end, int length) {
            int total = sumOfSizes(from, kidCount);
            if (end >= kidCount || total <= 0) {
                return length;
            }
            return (2 * sumOfSizes(from, end) * length + total) / (2 * total);
        }

        private void collapse(int from, Rects rects) {
            for (int i = from; i < kidCount; i++) {
                rects.put(kids[i], free.left, free.top, 0, 0);
            }
        }

        private void fillBand(int from, int end, boolean sideBySide, Rects rects) {
            kidShares.clear();
            for (int i = from; i < end; i++) {
                kidShares.add(kidSizes[i]);
            }
            kidShares.apportion(sideBySide ? band.wide : band.high);
            int offset = 0;
            for (int i = from; i < end; i++) {
                int part = kidShares.pixels[i - from];
                if (sideBySide) {
                    rects.put(kids[i], band.left + offset, band.top, part, band.high);
                } else {
                    rects.put(kids[i], band.left, band.top + offset, band.wide, part);
                }
                offset += part;
            }
        }

        private float pixelsPerSize(int from) {
            int total = sumOfSizes(from, kidCount);
            return total > 0 ? (float) (free.wide * free.high) / (float) total : 0f;
        }

        private static float thicknessOf(int total, float unit, int side) {
            return side > 0 ? (float) total * unit / (float) side : 0f;
        }

        private static float ratio(int kidSize, float unit, float thickness) {
            float length = thickness > 0f ? (float) kidSize * unit / thickness : 0f;
            if (length <= 0f) {
                return 0f;
            }
            float lying = length / thickness;
            float standing = thickness / length;
            return lying >= standing ? lying : standing;
        }

        private int sumOfSizes(int from, int end) {
            int sum = 0;
            for (int i = from; i < end; i++) {
                sum += kidSizes[i];
            }
            return sum;
        }
    }
}
