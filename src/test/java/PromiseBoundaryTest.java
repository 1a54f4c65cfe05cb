import java.math.BigInteger;
import java.util.ArrayList;
import java.util.List;
import java.util.function.IntSupplier;
import java.util.function.IntUnaryOperator;

/**
 * The boundary cases that the sentences of the promises 1 to 26 name: the least
 * and the greatest argument, those just beyond them and every refused call. The
 * answers that are due were worked out by hand.
 */
public final class PromiseBoundaryTest {
    private static final int NONE = -1;
    private static final int INVALID = -2;
    private static final int REJECTED = -3;
    private static final int FULL = -4;
    private static final int SLICE = 0;
    private static final int STRIP = 1;
    private static final int SQUARIFIED = 2;
    private static int wrong = 0;

    public static void main(String[] args) {
        promise01NewObject();
        promise02AddNode();
        promise02AddNodeFull();
        promise03SetSize();
        promise04RemoveLeaf();
        promise04NumbersMoveDown();
        promise05SetParent();
        promise05Descendants();
        promise06SetCanvas();
        promise07SetPadding();
        promise08SetMode();
        promise09NodeCount();
        promises10To18NoSuchNode();
        promise12Depth();
        promise13LeafCount();
        promise18IsHidden();
        promise19NodeAtEdges();
        promise19NodeAtEmptyRectangles();
        promise20LeafPixels();
        promises21And22NoArea();
        promise21WorstAspect();
        promise22AverageAspect();
        promise23ChangeByRefused();
        promise23ChangeByHidden();
        promises19To23FullAndRemoved();
        promise24Undo();
        promise25ErrorCount();
        promise26DigestWraps();
        System.out.println(wrong == 0 ? "all boundaries are as due" : wrong + " boundaries are not as due");
        if (wrong != 0) {
            System.exit(1);
        }
    }

    // ---- helpers

    private static void due(String what, long got, long want) {
        if (got != want) {
            wrong++;
            System.out.println(what + " answered " + got + ", due is " + want);
        }
    }

    private static void dueRect(String what, TreemapLayout t, int node, int x, int y, int w, int h) {
        due(what + ": x(" + node + ")", t.x(node), x);
        due(what + ": y(" + node + ")", t.y(node), y);
        due(what + ": width(" + node + ")", t.width(node), w);
        due(what + ": height(" + node + ")", t.height(node), h);
    }

    /**
     * The call fails and its counter alone grows by 1: the digest is a sum of the
     * values times powers of 31, so that only this one power may be added to it.
     */
    private static void dueRefused(String what, TreemapLayout t, IntSupplier call, int code) {
        long before = t.digest();
        due(what, call.getAsInt(), code);
        int kind = INVALID - code;
        long weight = 1;
        for (int i = 0; i < 11 + 8 * t.nodeCount() - kind; i++) {
            weight *= 31;
        }
        due(what + ": change of the digest", t.digest() - before, weight);
    }

    /** INVALID for each value just below "least" or just above "greatest", and for those far away. */
    private static void dueOutside(String what, TreemapLayout t, int least, int greatest, IntUnaryOperator call) {
        int[] outside = {least - 1, least - 2, greatest + 1, greatest + 2, greatest + 256, least - 256,
            Integer.MAX_VALUE, Integer.MIN_VALUE, Integer.MIN_VALUE + 1};
        for (int value : outside) {
            dueRefused(what + " " + value, t, () -> call.applyAsInt(value), INVALID);
        }
    }

    private static TreemapLayout made(int mode, int width, int height, int... childrenOfRoot) {
        TreemapLayout t = new TreemapLayout();
        t.setMode(mode);
        t.setCanvas(width, height);
        for (int size : childrenOfRoot) {
            t.addNode(0, size);
        }
        return t;
    }

    private static TreemapLayout full() {
        TreemapLayout t = new TreemapLayout();
        for (int node = 1; node < 24; node++) {
            t.addNode(node / 3, node);
        }
        return t;
    }

    private static int bits(float value) {
        return Float.floatToIntBits(value);
    }

    // ---- promises 1 to 8

    /** "a layout with the root as the only node (own size 1)": nothing beside it, saved or counted. */
    private static void promise01NewObject() {
        TreemapLayout t = new TreemapLayout();
        due("1: errorCount(0)", t.errorCount(0), 0);
        due("1: errorCount(1)", t.errorCount(1), 0);
        due("1: errorCount(2)", t.errorCount(2), 0);
        dueRefused("1: no second node", t, () -> t.size(1), INVALID);
        dueRefused("1: nothing to undo", t, () -> t.undo(), REJECTED);
        due("1: nodeAt", t.nodeAt(99, 59), 0);
        dueRefused("1: right of the canvas", t, () -> t.nodeAt(100, 59), INVALID);
        dueRefused("1: below the canvas", t, () -> t.nodeAt(99, 60), INVALID);
        due("1: mode", t.setMode(STRIP), STRIP);
        due("1: padding", t.setPadding(0), 0);
        due("1: canvas", t.setCanvas(100, 60), 100060);
        due("1: own size", t.setSize(0, 1), 1);
    }

    /** "INVALID if an argument is out of range", "parent: number of an existing node", "size: .. 1 to 99". */
    private static void promise02AddNode() {
        TreemapLayout t = made(STRIP, 100, 60, 4);
        dueOutside("2: parent", t, 0, 1, parent -> t.addNode(parent, 5));
        dueOutside("2: size", t, 1, 99, size -> t.addNode(1, size));
        due("2: least parent, least size", t.addNode(0, 1), 2);
        due("2: greatest parent, greatest size", t.addNode(2, 99), 3);
        due("2: parent", t.parent(3), 2);
        due("2: size", t.size(3), 99);
        t.removeLeaf(1);
        due("2: the number of nodes before the call", t.addNode(0, 1), 3);
        t.undo();
        dueOutside("2: parent that was undone", t, 0, 2, parent -> t.addNode(parent, 5));
    }

    /** "FULL if there are 24 nodes." */
    private static void promise02AddNodeFull() {
        TreemapLayout t = full();
        due("2: 24 nodes", t.nodeCount(), 24);
        dueRefused("2: full, root", t, () -> t.addNode(0, 1), FULL);
        dueRefused("2: full, last node", t, () -> t.addNode(23, 99), FULL);
        dueOutside("2: full, parent", t, 0, 23, parent -> t.addNode(parent, 5));
        dueOutside("2: full, size", t, 1, 99, size -> t.addNode(1, size));
        due("2: undo of the last one that was added", t.undo(), 3);
        due("2: 23 nodes", t.nodeCount(), 23);
        due("2: the 24th again", t.addNode(22, 8), 23);
    }

    /** "Returns the previous own size; INVALID if an argument is out of range." */
    private static void promise03SetSize() {
        TreemapLayout t = made(STRIP, 100, 60, 4, 5);
        dueOutside("3: node", t, 0, 2, node -> t.setSize(node, 5));
        dueOutside("3: size", t, 1, 99, size -> t.setSize(2, size));
        due("3: least node, greatest size", t.setSize(0, 99), 1);
        due("3: a node with children has an own size", t.setSize(0, 1), 99);
        due("3: greatest node, least size", t.setSize(2, 1), 5);
        due("3: size", t.size(2), 1);
        due("3: undone size", t.undo(), 3);
        due("3: size is back", t.size(2), 5);
    }

    /** "INVALID if there is no such node; REJECTED if the node is the root or has children." */
    private static void promise04RemoveLeaf() {
        TreemapLayout t = made(STRIP, 100, 60, 4);
        t.addNode(1, 5);
        dueOutside("4: node", t, 0, 2, node -> t.removeLeaf(node));
        dueRefused("4: root", t, () -> t.removeLeaf(0), REJECTED);
        dueRefused("4: has a child", t, () -> t.removeLeaf(1), REJECTED);
        due("4: the last node", t.removeLeaf(2), 2);
        dueRefused("4: gone", t, () -> t.removeLeaf(2), INVALID);
        due("4: a leaf now", t.removeLeaf(1), 1);
        dueRefused("4: the lone root", t, () -> t.removeLeaf(0), REJECTED);
        TreemapLayout full = full();
        due("4: first leaf of a full tree", full.removeLeaf(8), 23);
        due("4: last leaf of a full tree", full.removeLeaf(22), 22);
    }

    /** "Each node with a greater number moves down by one number." */
    private static void promise04NumbersMoveDown() {
        TreemapLayout t = made(STRIP, 100, 60, 11, 12, 13);
        t.addNode(3, 14);
        t.addNode(1, 15);
        t.setParent(2, 4);
        due("4: its parent has a greater number", t.removeLeaf(2), 5);
        int[] parents = {-1, 0, 0, 2, 1};
        int[] sizes = {15 + 14, 15, 14, 14, 15};
        int[] ownSizes = {1, 11, 13, 14, 15};
        for (int node = 0; node < 5; node++) {
            due("4: parent(" + node + ")", t.parent(node), parents[node]);
            due("4: size(" + node + ")", t.size(node), sizes[node]);
            due("4: own size of " + node, t.setSize(node, ownSizes[node]), ownSizes[node]);
        }
        TreemapLayout low = made(STRIP, 100, 60, 11, 12, 13);
        low.setParent(1, 3);
        due("4: number 1, below number 3", low.removeLeaf(1), 3);
        due("4: size of the old 2", low.size(1), 12);
        due("4: size of the old 3", low.size(2), 13);
        due("4: parent of the old 3", low.parent(2), 0);
        low.undo();
        due("4: undone, parent(1)", low.parent(1), 3);
        due("4: undone, nodeCount", low.nodeCount(), 4);
    }

    /** "INVALID if a node does not exist; REJECTED if node is the root, or if parent is node". */
    private static void promise05SetParent() {
        TreemapLayout t = made(STRIP, 100, 60, 4, 5);
        dueOutside("5: node", t, 0, 2, node -> t.setParent(node, 0));
        dueOutside("5: parent", t, 0, 2, parent -> t.setParent(1, parent));
        dueOutside("5: parent of the root", t, 0, 2, parent -> t.setParent(0, parent));
        dueRefused("5: root below a node", t, () -> t.setParent(0, 1), REJECTED);
        dueRefused("5: root below itself", t, () -> t.setParent(0, 0), REJECTED);
        dueRefused("5: node below itself", t, () -> t.setParent(2, 2), REJECTED);
        due("5: to the parent it has", t.setParent(2, 0), 0);
        due("5: to its brother", t.setParent(2, 1), 0);
        due("5: back", t.setParent(2, 0), 1);
        due("5: the brother below it", t.setParent(1, 2), 0);
        dueRefused("5: now it is a descendant", t, () -> t.setParent(2, 1), REJECTED);
    }

    /** "REJECTED .. if parent is .. a descendant of node.", "with all its descendants". */
    private static void promise05Descendants() {
        TreemapLayout t = new TreemapLayout();
        for (int node = 0; node < 23; node++) {
            t.addNode(node, 1);
        }
        dueRefused("5: to its child", t, () -> t.setParent(1, 2), REJECTED);
        dueRefused("5: to the deepest descendant", t, () -> t.setParent(1, 23), REJECTED);
        due("5: to an ancestor", t.setParent(12, 0), 11);
        due("5: depth", t.depth(12), 1);
        due("5: depth of the last one", t.depth(23), 12);
        due("5: the first half below the second", t.setParent(1, 23), 0);
        due("5: depth of the last one", t.depth(11), 23);
        due("5: number and parent stay", t.parent(11), 10);
        dueRefused("5: to the deepest descendant again", t, () -> t.setParent(12, 11), REJECTED);
        due("5: nodeCount", t.nodeCount(), 24);
        due("5: size of the root", t.size(0), 1);
    }

    /** "Returns 1000 times the previous width, plus the previous height; INVALID if an argument is out of range." */
    private static void promise06SetCanvas() {
        TreemapLayout t = new TreemapLayout();
        dueOutside("6: width", t, 1, 200, width -> t.setCanvas(width, 60));
        dueOutside("6: height", t, 1, 200, height -> t.setCanvas(100, height));
        due("6: least", t.setCanvas(1, 1), 100060);
        due("6: greatest", t.setCanvas(200, 200), 1001);
        due("6: least width", t.setCanvas(1, 200), 200200);
        due("6: least height", t.setCanvas(200, 1), 1200);
        due("6: the same", t.setCanvas(200, 1), 200001);
        dueRect("6", t, 0, 0, 0, 200, 1);
    }

    /** "INVALID if padding is out of range." */
    private static void promise07SetPadding() {
        TreemapLayout t = made(STRIP, 7, 7, 1);
        dueOutside("7: padding", t, 0, 3, padding -> t.setPadding(padding));
        for (int padding = 0; padding <= 3; padding++) {
            due("7: previous", t.setPadding(padding), padding == 0 ? 0 : padding - 1);
            dueRect("7: " + padding, t, 1, padding, padding, 7 - 2 * padding, 7 - 2 * padding);
        }
        due("7: back to 0", t.setPadding(0), 3);
        dueRect("7: back to 0", t, 1, 0, 0, 7, 7);
    }

    /** "INVALID if mode is out of range." */
    private static void promise08SetMode() {
        TreemapLayout t = made(STRIP, 60, 60, 1, 1, 1);
        dueOutside("8: mode", t, SLICE, SQUARIFIED, mode -> t.setMode(mode));
        due("8: least", t.setMode(SLICE), STRIP);
        dueRect("8: slice", t, 3, 40, 0, 20, 60);
        due("8: greatest", t.setMode(SQUARIFIED), SLICE);
        dueRect("8: squarified", t, 3, 40, 0, 20, 60);
        dueRect("8: squarified", t, 2, 0, 30, 40, 30);
        due("8: middle", t.setMode(STRIP), SQUARIFIED);
        dueRect("8: strip", t, 3, 0, 40, 60, 20);
    }

    // ---- promises 9 to 18

    /** "Returns 1 to 24." */
    private static void promise09NodeCount() {
        TreemapLayout t = new TreemapLayout();
        t.removeLeaf(0);
        due("9: least", t.nodeCount(), 1);
        for (int i = 1; i <= 30; i++) {
            t.addNode(0, 1);
            due("9: after " + i, t.nodeCount(), Math.min(24, 1 + i));
        }
        due("9: refused seven times", t.errorCount(2), 7);
    }

    /** "INVALID if there is no such node.": in a small tree, after a removal, after an undo and in a full tree. */
    private static void promises10To18NoSuchNode() {
        TreemapLayout removed = made(STRIP, 100, 60, 4, 5, 6);
        removed.removeLeaf(3);
        TreemapLayout undone = made(STRIP, 100, 60, 4, 5, 6);
        undone.undo();
        TreemapLayout[] layouts = {new TreemapLayout(), removed, undone, full()};
        int[] counts = {1, 3, 3, 24};
        for (int i = 0; i < layouts.length; i++) {
            TreemapLayout t = layouts[i];
            int last = counts[i] - 1;
            dueOutside("10: size", t, 0, last, node -> t.size(node));
            dueOutside("11: parent", t, 0, last, node -> t.parent(node));
            dueOutside("12: depth", t, 0, last, node -> t.depth(node));
            dueOutside("14: x", t, 0, last, node -> t.x(node));
            dueOutside("15: y", t, 0, last, node -> t.y(node));
            dueOutside("16: width", t, 0, last, node -> t.width(node));
            dueOutside("17: height", t, 0, last, node -> t.height(node));
            dueOutside("18: isHidden", t, 0, last, node -> t.isHidden(node));
            due("10 to 18: counted", t.errorCount(0), 8 * 9);
            due("11: root", t.parent(0), NONE);
            due("18: root", t.isHidden(0), 0);
            due("16: the last node exists", t.width(last) > 0 ? 1 : 0, 1);
        }
    }

    /** "the root has depth 0": the greatest depth is 23. */
    private static void promise12Depth() {
        TreemapLayout t = new TreemapLayout();
        for (int node = 0; node < 23; node++) {
            t.addNode(node, 1);
            due("12: depth", t.depth(node + 1), node + 1);
        }
        due("12: root", t.depth(0), 0);
        t.setParent(1, 0);
        due("12: the same parent", t.depth(23), 23);
        t.setParent(2, 0);
        due("12: one less", t.depth(23), 22);
    }

    /** "Returns 1 to 24.": a chain has one leaf, a full tree below the root 23. */
    private static void promise13LeafCount() {
        TreemapLayout t = new TreemapLayout();
        due("13: lone root", t.leafCount(), 1);
        for (int node = 0; node < 23; node++) {
            t.addNode(node, 1);
            due("13: chain", t.leafCount(), 1);
        }
        for (int node = 2; node < 24; node++) {
            t.setParent(node, 0);
        }
        due("13: all below the root", t.leafCount(), 23);
        t.setPadding(3);
        t.setCanvas(1, 1);
        due("13: hidden leaves are leaves", t.leafCount(), 23);
    }

    /** "hidden if one of its ancestors has an empty inner rectangle or a rectangle with width or height 0." */
    private static void promise18IsHidden() {
        TreemapLayout t = made(SLICE, 6, 200, 1);
        for (int node = 1; node < 23; node++) {
            t.addNode(node, 1);
        }
        t.setPadding(3);
        due("18: the root", t.isHidden(0), 0);
        for (int node = 1; node < 24; node++) {
            due("18: below the root, " + node, t.isHidden(node), 1);
        }
        t.setCanvas(200, 200);
        // 200 - 6 * depth is the width: 2 at the depth of 33, so all 23 levels have room.
        for (int node = 1; node < 24; node++) {
            due("18: room for node " + node, t.isHidden(node), 0);
            due("18: width of node " + node, t.width(node), 200 - 6 * node);
        }
        t.setCanvas(200, 72);
        // The height of node 11 is 6: nothing is inside, so that node 12 is the first hidden one.
        for (int node = 0; node < 24; node++) {
            due("18: height 72, node " + node, t.isHidden(node), node < 12 ? 0 : 1);
        }
        t.setCanvas(200, 73);
        due("18: height 73, node 12", t.isHidden(12), 0);
        dueRect("18: height 73", t, 12, 36, 36, 128, 1);
        due("18: height 73, node 13", t.isHidden(13), 1);
    }

    // ---- promises 19 to 23

    /** "px: 0 to W - 1", "py: 0 to H - 1", "INVALID if the pixel is not on the canvas." */
    private static void promise19NodeAtEdges() {
        int[][] canvases = {{1, 1}, {200, 200}, {200, 1}, {1, 200}};
        for (int[] size : canvases) {
            TreemapLayout t = made(SLICE, size[0], size[1], 1);
            due("19: first pixel", t.nodeAt(0, 0), 1);
            due("19: last pixel", t.nodeAt(size[0] - 1, size[1] - 1), 1);
            dueOutside("19: px", t, 0, size[0] - 1, px -> t.nodeAt(px, 0));
            dueOutside("19: py", t, 0, size[1] - 1, py -> t.nodeAt(0, py));
        }
        TreemapLayout t = made(SLICE, 10, 8, 1, 1);
        due("19: last column of 1", t.nodeAt(4, 7), 1);
        due("19: first column of 2", t.nodeAt(5, 0), 2);
        t.setCanvas(9, 7);
        dueRefused("19: beyond a smaller canvas, px", t, () -> t.nodeAt(9, 6), INVALID);
        dueRefused("19: beyond a smaller canvas, py", t, () -> t.nodeAt(8, 7), INVALID);
        t.undo();
        due("19: the canvas is back", t.nodeAt(9, 7), 2);
        t.addNode(2, 1);
        t.addNode(2, 1);
        due("19: last row of 3", t.nodeAt(9, 3), 3);
        due("19: first row of 4", t.nodeAt(9, 4), 4);
    }

    /** "whose rectangle contains a pixel": one without area contains none, be it hidden or not. */
    private static void promise19NodeAtEmptyRectangles() {
        TreemapLayout hidden = made(STRIP, 2, 2, 1);
        hidden.addNode(1, 1);
        hidden.setPadding(1);
        due("19: hidden nodes are not at 0, 0", hidden.nodeAt(0, 0), 0);
        due("19: hidden nodes are not at 1, 1", hidden.nodeAt(1, 1), 0);
        TreemapLayout thin = made(SLICE, 2, 3, 1, 9, 9);
        dueRect("19: width 0", thin, 1, 0, 0, 0, 3);
        due("19: width 0", thin.nodeAt(0, 0), 2);
        due("19: behind", thin.nodeAt(1, 2), 3);
        TreemapLayout flat = made(STRIP, 1, 1, 1, 1, 1);
        dueRect("19: height 0", flat, 3, 0, 1, 1, 0);
        due("19: height 0", flat.nodeAt(0, 0), 1);
        TreemapLayout padded = made(SLICE, 5, 5, 1);
        padded.addNode(1, 1);
        padded.setPadding(1);
        int[] alongTheMiddle = {0, 1, 2, 1, 0};
        for (int i = 0; i < 5; i++) {
            due("19: px " + i, padded.nodeAt(i, 2), alongTheMiddle[i]);
            due("19: py " + i, padded.nodeAt(2, i), alongTheMiddle[i]);
            due("19: corner " + i, padded.nodeAt(i, i), alongTheMiddle[i]);
        }
    }

    /** "Returns the sum of width times height of all leaves." */
    private static void promise20LeafPixels() {
        TreemapLayout t = new TreemapLayout();
        t.setCanvas(200, 200);
        due("20: greatest", t.leafPixels(), 40000);
        t.setCanvas(1, 1);
        due("20: least of a root", t.leafPixels(), 1);
        t.setPadding(3);
        due("20: a root that is a leaf has no padding", t.leafPixels(), 1);
        t.addNode(0, 1);
        due("20: all leaves hidden", t.leafPixels(), 0);
        t.setCanvas(7, 7);
        due("20: one pixel", t.leafPixels(), 1);
        t.addNode(1, 1);
        due("20: hidden below that pixel, which is no leaf's", t.leafPixels(), 0);
        TreemapLayout thin = made(SLICE, 1, 9, 1, 1, 1);
        due("20: leaves without width", thin.leafPixels(), 9);
    }

    /** "NONE if no leaf has an area.": one leaf is hidden, the other one has no width. */
    private static void promises21And22NoArea() {
        TreemapLayout t = made(SLICE, 3, 5, 9, 1);
        t.addNode(1, 9);
        t.setPadding(1);
        dueRect("21: no leaf", t, 1, 1, 1, 1, 3);
        dueRect("21: no width", t, 2, 2, 1, 0, 3);
        due("21: hidden", t.isHidden(3), 1);
        due("21: no area", t.worstAspect(), NONE);
        due("22: no area", t.averageAspect(), NONE);
        due("20: no area", t.leafPixels(), 0);
        t.removeLeaf(3);
        due("21: one area", t.worstAspect(), bits(3f));
        due("22: one area, and one leaf without", t.averageAspect(), bits(3f));
        due("21 and 22: no error", t.errorCount(0), 0);
    }

    /** "the greater side in pixels divided by the smaller one, as floats". */
    private static void promise21WorstAspect() {
        TreemapLayout t = new TreemapLayout();
        t.setCanvas(7, 7);
        due("21: a square", t.worstAspect(), 0x3f800000);
        t.setCanvas(200, 1);
        due("21: greatest, lying", t.worstAspect(), 0x43480000);
        t.setCanvas(1, 200);
        due("21: greatest, standing", t.worstAspect(), 0x43480000);
        t.setCanvas(200, 199);
        due("21: nearly a square", t.worstAspect(), bits(200f / 199f));
        t.setCanvas(199, 200);
        due("21: nearly a square, standing", t.worstAspect(), bits(200f / 199f));
        t.setCanvas(2, 1);
        due("21: a power of 2", t.worstAspect(), 0x40000000);
        t.setCanvas(128, 127);
        due("21: 128 by 127", t.worstAspect(), bits(128f / 127f));
        TreemapLayout many = made(SLICE, 30, 10, 1, 1, 4);
        due("21: the worst in front", many.worstAspect(), bits(2f));
        many.setSize(2, 10);
        many.setSize(1, 10);
        due("21: the worst behind", many.worstAspect(), bits(10f / 5f));
        many.setCanvas(12, 12);
        due("21: all standing", many.worstAspect(), bits(12f / 2f));
    }

    /** "added up in float arithmetic from 0f by rising number of the leaf, divided by their number as a float". */
    private static void promise22AverageAspect() {
        TreemapLayout t = made(SLICE, 5, 4, 1, 1, 2);
        // 4, 4 and 4/3: the other way round, or in doubles, the last bit would be another one.
        due("22: by rising number", t.averageAspect(), 1078402161);
        t.setSize(1, 2);
        t.setSize(3, 1);
        due("22: 4/3 comes first", t.averageAspect(), bits(((4f / 3f + 4f) + 4f) / 3f));
        TreemapLayout one = new TreemapLayout();
        one.setCanvas(200, 1);
        due("22: one leaf", one.averageAspect(), bits(200f));
        TreemapLayout thin = made(SLICE, 2, 6, 1, 1, 1, 1);
        due("22: two of four have an area", thin.averageAspect(), bits(6f));
        TreemapLayout wide = made(SLICE, 23, 1);
        for (int i = 0; i < 23; i++) {
            wide.addNode(0, 99);
        }
        due("22: 23 squares", wide.averageAspect(), 0x3f800000);
    }

    /** "INVALID if an argument is out of range.", "This method changes nothing." */
    private static void promise23ChangeByRefused() {
        TreemapLayout t = made(SLICE, 100, 60, 1, 1);
        dueOutside("23: node", t, 0, 2, node -> t.changeBy(node, 5));
        dueOutside("23: size", t, 1, 99, size -> t.changeBy(2, size));
        long before = t.digest();
        due("23: least size, which it has", t.changeBy(1, 1), 0);
        // 99 of 100 pixels instead of 50: the width of 1, the left edge and the width of 2.
        due("23: greatest size", t.changeBy(1, 99), 3 * 49);
        due("23: greatest node", t.changeBy(2, 99), 3 * 49);
        due("23: a node with children", t.changeBy(0, 99), 0);
        due("23: changes nothing", t.digest(), before);
        due("23: own size of the root", t.setSize(0, 1), 1);
    }

    /** "the sum, over all nodes, .. between the present layout and the changed one": hidden nodes count, with 0. */
    private static void promise23ChangeByHidden() {
        TreemapLayout t = made(SLICE, 20, 10, 1, 8);
        t.addNode(1, 1);
        t.addNode(2, 8);
        t.setPadding(1);
        due("23: hidden now", t.isHidden(3), 1);
        due("23: comes into sight", t.changeBy(3, 10), 8 + 16 + 18 + 16);
        due("23: still hidden", t.isHidden(3), 1);
        t.setSize(3, 10);
        dueRect("23: in sight", t, 3, 2, 2, 8, 6);
        due("23: goes out of sight", t.changeBy(3, 1), 8 + 16 + 18 + 16);
        due("23: still in sight", t.isHidden(3), 0);
        t.setCanvas(2, 2);
        due("23: all hidden", t.changeBy(3, 99), 0);
        TreemapLayout down = made(SLICE, 60, 100, 1);
        down.addNode(1, 1);
        down.addNode(1, 1);
        due("23: heights and y", down.changeBy(3, 99), 3 * 49);
        TreemapLayout sorted = made(SQUARIFIED, 6, 1, 1, 2);
        // 2 stands left with 4 pixels; with the size 4 it is 1, with 4 pixels, too.
        due("23: the places are changed", sorted.changeBy(1, 4), 4 + 2 + 4 + 2);
    }

    /** "all nodes", "all leaves": the last one of a full tree is one of them, one that was removed is not. */
    private static void promises19To23FullAndRemoved() {
        TreemapLayout t = made(SLICE, 46, 2, 1);
        for (int node = 2; node < 24; node++) {
            t.addNode(0, 1);
        }
        due("19: last node of a full tree", t.nodeAt(45, 1), 23);
        due("20: full tree", t.leafPixels(), 92);
        due("21: full tree", t.worstAspect(), bits(1f));
        due("22: full tree", t.averageAspect(), bits(1f));
        // Of 46 pixels and the total 24 each part has 1 and a remainder of 22, the last part 3 and 20;
        // of the 21 pixels that are left over the nodes 1 to 21 have one each: 2, then 1, then 3.
        due("23: last node of a full tree", t.changeBy(23, 2), 1 + 2);
        due("23: a full tree, no change", full().changeBy(8, 8), 0);
        TreemapLayout small = made(SLICE, 40, 10, 1);
        small.addNode(1, 1);
        small.addNode(1, 1);
        due("19: not yet removed", small.nodeAt(0, 9), 3);
        due("20: not yet removed", small.leafPixels(), 400);
        due("21: not yet removed", small.worstAspect(), bits(8f));
        small.removeLeaf(3);
        due("19: removed", small.nodeAt(0, 9), 2);
        due("20: removed", small.leafPixels(), 400);
        due("21: removed", small.worstAspect(), bits(4f));
        due("22: removed", small.averageAspect(), bits(4f));
        due("23: removed", small.changeBy(2, 99), 0);
        small.removeLeaf(2);
        due("19: both removed", small.nodeAt(0, 9), 1);
        due("23: both removed", small.changeBy(1, 99), 0);
    }

    // ---- promises 24 to 26

    /** "REJECTED if the stack is empty.", "the number of states that are left on the stack". */
    private static void promise24Undo() {
        TreemapLayout t = new TreemapLayout();
        dueRefused("24: new", t, () -> t.undo(), REJECTED);
        t.setSize(0, 2);
        due("24: one saved", t.undo(), 0);
        dueRefused("24: empty", t, () -> t.undo(), REJECTED);
        for (int padding = 0; padding <= 3; padding++) {
            t.setPadding(padding);
        }
        t.setMode(SLICE);
        for (int left = 3; left >= 0; left--) {
            due("24: left", t.undo(), left);
        }
        dueRefused("24: four were kept", t, () -> t.undo(), REJECTED);
        due("24: the oldest kept state", t.setPadding(1), 0);
        due("24: mode", t.setMode(SLICE), STRIP);
        TreemapLayout full = full();
        due("24: from a full tree", full.undo(), 3);
        full.removeLeaf(22);
        full.removeLeaf(21);
        // Three states were left, and of three and two the latest four are kept.
        due("24: removals are undone", full.undo(), 3);
        due("24: removals are undone", full.undo(), 2);
        due("24: nodeCount", full.nodeCount(), 23);
        due("24: parent", full.parent(22), 7);
        due("24: size", full.size(22), 22);
        undoOfAFullTree();
    }

    /** "Restores the latest saved state": all 24 nodes of it, the last one as well. */
    private static void undoOfAFullTree() {
        TreemapLayout t = full();
        t.removeLeaf(23);
        due("24: another last node", t.addNode(0, 99), 23);
        due("24: full again, then undone", t.undo(), 3);
        due("24: the removal is undone", t.undo(), 2);
        due("24: nodeCount of a full tree", t.nodeCount(), 24);
        due("24: parent of the last node", t.parent(23), 7);
        due("24: size of the last node", t.size(23), 23);
    }

    /** "0 for INVALID, 1 for REJECTED, 2 for FULL", "INVALID (which is counted, too) if kind is out of range." */
    private static void promise25ErrorCount() {
        TreemapLayout t = full();
        dueOutside("25: kind", t, 0, 2, kind -> t.errorCount(kind));
        due("25: INVALID", t.errorCount(0), 9);
        due("25: REJECTED", t.errorCount(1), 0);
        due("25: FULL", t.errorCount(2), 0);
        t.removeLeaf(0);
        t.removeLeaf(0);
        t.addNode(0, 1);
        due("25: INVALID stays", t.errorCount(0), 9);
        due("25: REJECTED", t.errorCount(1), 2);
        due("25: FULL", t.errorCount(2), 1);
    }

    /** "h becomes 31 * h + v (long arithmetic, overflow wraps)". */
    private static void promise26DigestWraps() {
        TreemapLayout t = full();
        t.setCanvas(200, 200);
        t.setSize(3, 98);
        t.addNode(0, 1);
        t.addNode(24, 1);
        t.undo();
        t.removeLeaf(3);
        List<Integer> values = new ArrayList<>(List.of(1, 1, 1, 3, 200, 200, 0, STRIP, 24));
        for (int node = 0; node < 24; node++) {
            values.addAll(List.of(node == 0 ? 1 : node, t.size(node), t.parent(node)));
            values.addAll(List.of(t.x(node), t.y(node), t.width(node), t.height(node), t.isHidden(node)));
        }
        values.addAll(List.of(t.leafPixels(), t.worstAspect(), t.averageAspect()));
        BigInteger exact = BigInteger.valueOf(11759);
        for (int value : values) {
            exact = exact.multiply(BigInteger.valueOf(31)).add(BigInteger.valueOf(value));
        }
        due("26: the exact hash needs more than 64 bits", exact.bitLength() > 64 ? 1 : 0, 1);
        due("26: wraps", t.digest(), exact.longValue());
    }
}
