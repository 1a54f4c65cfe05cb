import java.util.Arrays;
import java.util.function.IntSupplier;

/**
 * The boundary cases that the sentences of the document's "Description" name,
 * a method for each sentence. The answers that are due were worked out by hand.
 */
public final class DescriptionBoundaryTest {
    private static final int NONE = -1;
    private static final int INVALID = -2;
    private static final int REJECTED = -3;
    private static final int FULL = -4;
    private static final int SLICE = 0;
    private static final int STRIP = 1;
    private static final int SQUARIFIED = 2;
    private static int wrong = 0;

    public static void main(String[] args) {
        tree();
        canvas();
        apportionment();
        sliceAndDice();
        strip();
        squarified();
        undo();
        errors();
        atMost512Calls();
        System.out.println(wrong == 0 ? "all boundaries are as due" : wrong + " boundaries are not as due");
        if (wrong != 0) {
            System.exit(1);
        }
    }

    private static void tree() {
        atMost24Nodes();
        rootAlwaysExists();
        childrenAreOrderedByNumber();
        aNodeWithoutChildrenIsALeaf();
        aLeafHasASizeFrom1To99();
        sizeIsTheSumOfTheChildren();
        ownSizeIsKeptButNotUsed();
    }

    private static void canvas() {
        canvasSidesAre1To200();
        rootIsTheWholeCanvas();
        paddingIs0To3();
        innerRectangleIsReducedOnFourSides();
        innerWidthBelow1();
        innerHeightBelow1();
        onlyDescendantsOfTheEmptyOneAreHidden();
        hiddenNodesComeBack();
        zeroWidthInSlice();
        zeroHeightInSlice();
        zeroSidesInStrip();
        zeroSidesInSquarified();
    }

    private static void apportionment() {
        nothingIsLeftOver();
        leftOverGoesToTheLargestRemainders();
        equalRemaindersPreferTheFirst();
        onePixelToEachPartAtMost();
        fewerPixelsThanParts();
        manyParts();
    }

    private static void sliceAndDice() {
        evenAndOddDepth();
        depthChangesWithTheParent();
        deepestDepths();
    }

    private static void strip() {
        aLoneChildIsOneStrip();
        equalAveragesJoin();
        aGreaterAverageOpensANewStrip();
        averageNotWorst();
        stripUsesFloats();
        stripAddsUpInOrder();
        unitIsNotRoundedToPixels();
        twentyThreeStrips();
        twentyThreeChildrenInOneStrip();
        stripsWithEqualRemainders();
        stripsInAnInnerRectangle();
    }

    private static void squarified() {
        equalSizesLowerNumberFirst();
        sideAndLength();
        equalWorstRatiosJoin();
        worstNotAverage();
        worstOfTheRowAlone();
        squarifiedUsesFloats();
        totalOfTheChildrenNotPlaced();
        thicknessIsRounded();
        thicknessOfNoPixels();
        lastRowTakesTheWholeLength();
        sideIsApportionedInSortedOrder();
        freeWidthOf0();
        freeHeightOf0();
        twentyThreeChildrenFillTheCanvas();
        rowsInAnInnerRectangle();
    }

    private static void undo() {
        savedAlsoIfNothingChanges();
        fourStatesAreKept();
        slotsAreUsedAgain();
        failedCallsAndQuestionsSaveNothing();
        countersAreNotSaved();
        savedStateIsTheWholeState();
    }

    private static void errors() {
        invalidBeforeRejected();
        invalidBeforeFull();
        twoWrongArgumentsAreOneError();
        noneOnlyWithoutError();
    }

    // ---- helpers

    private static void due(String what, long got, long want) {
        if (got != want) {
            wrong++;
            System.out.println(what + " answered " + got + ", due is " + want);
        }
    }

    private static void dueRect(String what, TreemapLayout t, int node, int x, int y, int w, int h) {
        due(what + ": x(" + node + ")", t.x(node), x);
        due(what + ": y(" + node + ")", t.y(node), y);
        due(what + ": width(" + node + ")", t.width(node), w);
        due(what + ": height(" + node + ")", t.height(node), h);
    }

    private static void dueShown(String what, TreemapLayout t, int node, int x, int y, int w, int h) {
        due(what + ": isHidden(" + node + ")", t.isHidden(node), 0);
        dueRect(what, t, node, x, y, w, h);
    }

    private static void dueHidden(String what, TreemapLayout t, int... nodes) {
        for (int node : nodes) {
            due(what + ": isHidden(" + node + ")", t.isHidden(node), 1);
            dueRect(what + ", hidden", t, node, 0, 0, 0, 0);
        }
    }

    /**
     * The call fails and its counter alone grows by 1: the digest is a sum of the
     * values times powers of 31, so that only this one power may be added to it.
     */
    private static void dueRefused(String what, TreemapLayout t, IntSupplier call, int code) {
        long before = t.digest();
        due(what, call.getAsInt(), code);
        int kind = INVALID - code;
        long weight = 1;
        for (int i = 0; i < 11 + 8 * t.nodeCount() - kind; i++) {
            weight *= 31;
        }
        due(what + ": change of the digest", t.digest() - before, weight);
    }

    private static TreemapLayout made(int mode, int width, int height, int... childrenOfRoot) {
        TreemapLayout t = new TreemapLayout();
        t.setMode(mode);
        t.setCanvas(width, height);
        for (int size : childrenOfRoot) {
            t.addNode(0, size);
        }
        return t;
    }

    private static int[] repeated(int value, int times) {
        int[] values = new int[times];
        Arrays.fill(values, value);
        return values;
    }

    /** A root with one child, that one with one child, and so on: the last node has the number "last". */
    private static TreemapLayout chain(int mode, int width, int height, int last) {
        TreemapLayout t = made(mode, width, height);
        for (int node = 0; node < last; node++) {
            t.addNode(node, 1);
        }
        return t;
    }

    // ---- TREE

    /** "The tree has at most 24 nodes, numbered from 0". */
    private static void atMost24Nodes() {
        TreemapLayout t = new TreemapLayout();
        due("24 nodes: number 0", t.size(0), 1);
        for (int node = 1; node <= 23; node++) {
            due("24 nodes: next number", t.addNode(node - 1, 1), node);
        }
        dueRefused("24 nodes: one more", t, () -> t.addNode(0, 1), FULL);
        dueRefused("24 nodes: one more below the last", t, () -> t.addNode(23, 99), FULL);
        due("24 nodes: nodeCount", t.nodeCount(), 24);
        due("24 nodes: last", t.size(23), 1);
        dueRefused("24 nodes: no number 24", t, () -> t.size(24), INVALID);
        t.removeLeaf(23);
        due("24 nodes: room for one", t.addNode(0, 5), 23);
        dueRefused("24 nodes: full again", t, () -> t.addNode(0, 1), FULL);
    }

    /** "node 0 is the root and always exists". */
    private static void rootAlwaysExists() {
        TreemapLayout t = new TreemapLayout();
        dueRefused("root: alone", t, () -> t.removeLeaf(0), REJECTED);
        t.addNode(0, 9);
        dueRefused("root: with a child", t, () -> t.removeLeaf(0), REJECTED);
        due("root: its child goes", t.removeLeaf(1), 1);
        dueRefused("root: alone again", t, () -> t.removeLeaf(0), REJECTED);
        t.undo();
        t.undo();
        dueRefused("root: nothing to undo", t, () -> t.undo(), REJECTED);
        due("root: nodeCount", t.nodeCount(), 1);
        due("root: parent", t.parent(0), NONE);
    }

    /** "The children of a node are ordered by their numbers." */
    private static void childrenAreOrderedByNumber() {
        TreemapLayout t = made(SLICE, 60, 12, 1, 2, 3);
        t.setParent(1, 2);
        t.setParent(1, 0);
        dueRect("order: back at the root", t, 1, 0, 0, 10, 12);
        dueRect("order: back at the root", t, 2, 10, 0, 20, 12);
        dueRect("order: back at the root", t, 3, 30, 0, 30, 12);
        t.addNode(3, 5);
        t.setParent(1, 3);
        dueRect("order: a child below its parent's number", t, 1, 15, 0, 45, 2);
        dueRect("order: a child above its parent's number", t, 4, 15, 2, 45, 10);
        t = made(SLICE, 60, 10, 1, 2, 3);
        t.removeLeaf(1);
        dueRect("order: after a removal", t, 1, 0, 0, 24, 10);
        dueRect("order: after a removal", t, 2, 24, 0, 36, 10);
    }

    /** "A node without children is a leaf". */
    private static void aNodeWithoutChildrenIsALeaf() {
        TreemapLayout t = new TreemapLayout();
        due("leaf: lone root", t.leafCount(), 1);
        t.addNode(0, 4);
        t.addNode(1, 5);
        t.addNode(0, 6);
        due("leaf: 2 and 3", t.leafCount(), 2);
        dueRefused("leaf: 1 is none", t, () -> t.removeLeaf(1), REJECTED);
        t.setParent(2, 3);
        due("leaf: 1 lost its child, 3 got it", t.leafCount(), 2);
        dueRefused("leaf: 3 is none", t, () -> t.removeLeaf(3), REJECTED);
        due("leaf: 1 is one", t.removeLeaf(1), 3);
        due("leaf: the old 2 is one", t.removeLeaf(1), 2);
        due("leaf: the old 3 is one again", t.removeLeaf(1), 1);
        due("leaf: the root is one again", t.leafCount(), 1);
    }

    /** "a leaf has its own size from 1 to 99". */
    private static void aLeafHasASizeFrom1To99() {
        TreemapLayout t = new TreemapLayout();
        due("leaf size: 99 for the root", t.setSize(0, 99), 1);
        due("leaf size: root", t.size(0), 99);
        due("leaf size: 1 for the root", t.setSize(0, 1), 99);
        due("leaf size: 1", t.addNode(0, 1), 1);
        due("leaf size: 99", t.addNode(0, 99), 2);
        due("leaf size: least", t.size(1), 1);
        due("leaf size: greatest", t.size(2), 99);
        dueRefused("leaf size: 0", t, () -> t.addNode(0, 0), INVALID);
        dueRefused("leaf size: 100", t, () -> t.addNode(0, 100), INVALID);
        dueRefused("leaf size: set to 0", t, () -> t.setSize(1, 0), INVALID);
        dueRefused("leaf size: set to 100", t, () -> t.setSize(1, 100), INVALID);
    }

    /** "The size of a node with children is the sum of the sizes of its children." */
    private static void sizeIsTheSumOfTheChildren() {
        TreemapLayout wide = made(STRIP, 100, 60, repeated(99, 23));
        due("sum: greatest", wide.size(0), 23 * 99);
        TreemapLayout deep = chain(STRIP, 100, 60, 23);
        deep.setSize(23, 98);
        for (int node = 0; node < 24; node++) {
            due("sum: one child at each level, node " + node, deep.size(node), 98);
        }
        TreemapLayout low = made(STRIP, 100, 60, 7, 8, 9);
        low.setParent(1, 3);
        low.setParent(2, 1);
        due("sum: a chain of falling numbers", low.size(3), 8);
        due("sum: the root above it", low.size(0), 8);
    }

    /** "Its own size is kept, but not used." */
    private static void ownSizeIsKeptButNotUsed() {
        TreemapLayout t = made(SLICE, 90, 60, 30, 5);
        t.addNode(1, 5);
        due("own size: not used", t.size(1), 5);
        dueRect("own size: not used", t, 1, 0, 0, 45, 60);
        due("own size: kept", t.setSize(1, 99), 30);
        due("own size: set, not used", t.size(1), 5);
        dueRect("own size: set, not used", t, 1, 0, 0, 45, 60);
        due("own size: no change of the layout", t.changeBy(1, 50), 0);
        t.removeLeaf(3);
        due("own size: used when the child is gone", t.size(1), 99);
        t.setParent(1, 2);
        due("own size: 2 is no leaf any more", t.size(2), 99);
        t.setParent(1, 0);
        due("own size: used when the child has moved", t.size(2), 5);
    }

    // ---- CANVAS

    /** "The canvas is W pixels wide and H pixels high (1 to 200 each)." */
    private static void canvasSidesAre1To200() {
        TreemapLayout t = new TreemapLayout();
        due("canvas: narrow and high", t.setCanvas(1, 200), 100060);
        dueRect("canvas: narrow and high", t, 0, 0, 0, 1, 200);
        due("canvas: wide and low", t.setCanvas(200, 1), 1200);
        dueRect("canvas: wide and low", t, 0, 0, 0, 200, 1);
        dueRefused("canvas: width 0", t, () -> t.setCanvas(0, 1), INVALID);
        dueRefused("canvas: height 0", t, () -> t.setCanvas(1, 0), INVALID);
        dueRefused("canvas: width 201", t, () -> t.setCanvas(201, 200), INVALID);
        dueRefused("canvas: height 201", t, () -> t.setCanvas(200, 201), INVALID);
    }

    /** "The rectangle of the root is the whole canvas: x = 0, y = 0, width W, height H." */
    private static void rootIsTheWholeCanvas() {
        for (int mode = SLICE; mode <= SQUARIFIED; mode++) {
            TreemapLayout t = made(mode, 1, 1, 1, 1);
            for (int padding = 0; padding <= 3; padding++) {
                t.setPadding(padding);
                dueShown("root: mode " + mode + ", padding " + padding, t, 0, 0, 0, 1, 1);
            }
            t.setCanvas(200, 200);
            dueShown("root: mode " + mode, t, 0, 0, 0, 200, 200);
        }
    }

    /** "The padding P is 0 to 3." */
    private static void paddingIs0To3() {
        TreemapLayout t = made(SLICE, 9, 9, 1);
        due("padding: 3", t.setPadding(3), 0);
        dueRect("padding: 3", t, 1, 3, 3, 3, 3);
        dueRefused("padding: 4", t, () -> t.setPadding(4), INVALID);
        dueRefused("padding: -1", t, () -> t.setPadding(-1), INVALID);
        due("padding: 0", t.setPadding(0), 3);
        dueRect("padding: 0", t, 1, 0, 0, 9, 9);
    }

    /** "The inner rectangle of a node with children is its rectangle reduced by P pixels on each of the four sides." */
    private static void innerRectangleIsReducedOnFourSides() {
        for (int mode = SLICE; mode <= SQUARIFIED; mode++) {
            TreemapLayout t = chain(mode, 20, 13, 2);
            for (int p = 0; p <= 3; p++) {
                t.setPadding(p);
                String what = "inner: mode " + mode + ", padding " + p;
                dueShown(what, t, 1, p, p, 20 - 2 * p, 13 - 2 * p);
                dueShown(what, t, 2, 2 * p, 2 * p, 20 - 4 * p, 13 - 4 * p);
            }
        }
    }

    /** "If its width .. would be less than 1, the inner rectangle is empty, and all descendants .. are hidden." */
    private static void innerWidthBelow1() {
        for (int mode = SLICE; mode <= SQUARIFIED; mode++) {
            for (int p = 1; p <= 3; p++) {
                String what = "inner width: mode " + mode + ", padding " + p;
                TreemapLayout t = chain(mode, 2 * p, 200, 3);
                t.setPadding(p);
                dueHidden(what + ", 0 inside", t, 1, 2, 3);
                t.setCanvas(2 * p - 1, 200);
                dueHidden(what + ", -1 inside", t, 1, 2, 3);
                t.setCanvas(1, 200);
                dueHidden(what + ", far below 0 inside", t, 1, 2, 3);
                t.setCanvas(2 * p + 1, 200);
                dueShown(what + ", 1 inside", t, 1, p, p, 1, 200 - 2 * p);
                dueHidden(what + ", 1 inside", t, 2, 3);
                dueShown(what, t, 0, 0, 0, 2 * p + 1, 200);
            }
        }
    }

    /** "If .. its height would be less than 1, the inner rectangle is empty, and all descendants .. are hidden." */
    private static void innerHeightBelow1() {
        for (int mode = SLICE; mode <= SQUARIFIED; mode++) {
            for (int p = 1; p <= 3; p++) {
                String what = "inner height: mode " + mode + ", padding " + p;
                TreemapLayout t = chain(mode, 200, 2 * p, 3);
                t.setPadding(p);
                dueHidden(what + ", 0 inside", t, 1, 2, 3);
                t.setCanvas(200, 2 * p - 1);
                dueHidden(what + ", -1 inside", t, 1, 2, 3);
                t.setCanvas(200, 1);
                dueHidden(what + ", far below 0 inside", t, 1, 2, 3);
                t.setCanvas(200, 2 * p + 1);
                dueShown(what + ", 1 inside", t, 1, p, p, 200 - 2 * p, 1);
                dueHidden(what + ", 1 inside", t, 2, 3);
                t.setCanvas(2 * p, 2 * p);
                dueHidden(what + ", 0 by 0 inside", t, 1, 2, 3);
            }
        }
    }

    /** "all descendants of the node are hidden": those of its brother are not. */
    private static void onlyDescendantsOfTheEmptyOneAreHidden() {
        TreemapLayout t = made(SLICE, 20, 10, 1, 8);
        t.addNode(1, 1);
        t.addNode(2, 8);
        t.setPadding(1);
        dueShown("brothers: narrow", t, 1, 1, 1, 2, 8);
        dueHidden("brothers: below the narrow one", t, 3);
        dueShown("brothers: broad", t, 2, 3, 1, 16, 8);
        dueShown("brothers: below the broad one", t, 4, 4, 2, 14, 6);
    }

    /** "A hidden node has x, y, width and height 0." */
    private static void hiddenNodesComeBack() {
        TreemapLayout t = chain(STRIP, 12, 7, 2);
        dueShown("hidden: not yet", t, 2, 0, 0, 12, 7);
        t.setPadding(2);
        dueShown("hidden: above it", t, 1, 2, 2, 8, 3);
        dueHidden("hidden: now", t, 2);
        t.setCanvas(12, 9);
        dueShown("hidden: no more", t, 2, 4, 4, 4, 1);
        t.undo();
        dueHidden("hidden: by undo", t, 2);
        t.undo();
        dueShown("hidden: not, by undo", t, 2, 0, 0, 12, 7);
    }

    /** "A child whose width .. is 0 is not hidden, but its descendants are.", in mode 0. */
    private static void zeroWidthInSlice() {
        TreemapLayout t = made(SLICE, 1, 5, 9, 1, 9);
        t.addNode(2, 1);
        t.addNode(4, 1);
        dueShown("slice, width 0: first", t, 1, 0, 0, 1, 5);
        dueShown("slice, width 0", t, 2, 1, 0, 0, 5);
        dueHidden("slice, width 0: below", t, 4, 5);
        dueShown("slice, width 0: behind", t, 3, 1, 0, 0, 5);
        due("slice, width 0: leafPixels", t.leafPixels(), 5);
    }

    /** "A child whose .. height is 0 is not hidden, but its descendants are.", in mode 0. */
    private static void zeroHeightInSlice() {
        TreemapLayout t = chain(SLICE, 5, 1, 1);
        t.addNode(1, 9);
        t.addNode(1, 1);
        t.addNode(3, 1);
        t.addNode(4, 1);
        dueShown("slice, height 0: first", t, 2, 0, 0, 5, 1);
        dueShown("slice, height 0", t, 3, 0, 1, 5, 0);
        dueHidden("slice, height 0: below", t, 4, 5);
    }

    /** The same in mode 1: a strip without height, and a child without width. */
    private static void zeroSidesInStrip() {
        TreemapLayout t = made(STRIP, 1, 1, 1, 1, 1);
        t.addNode(1, 1);
        t.addNode(2, 1);
        t.addNode(3, 1);
        t.addNode(6, 1);
        dueShown("strip: with area", t, 1, 0, 0, 1, 1);
        dueShown("strip: below it", t, 4, 0, 0, 1, 1);
        dueShown("strip: width 0", t, 2, 1, 0, 0, 1);
        dueHidden("strip: below width 0", t, 5);
        dueShown("strip: height 0", t, 3, 0, 1, 1, 0);
        dueHidden("strip: below height 0", t, 6, 7);
    }

    /** The same in mode 2. */
    private static void zeroSidesInSquarified() {
        TreemapLayout t = made(SQUARIFIED, 1, 1, 1, 1, 1, 1, 1);
        for (int node = 1; node <= 5; node++) {
            t.addNode(node, 1);
        }
        dueShown("squarified: width 0", t, 1, 0, 0, 0, 1);
        dueShown("squarified: width and height 0", t, 2, 0, 1, 0, 0);
        dueShown("squarified: with area", t, 3, 0, 0, 1, 1);
        dueShown("squarified: height 0", t, 4, 0, 1, 1, 0);
        dueShown("squarified: nothing is free", t, 5, 1, 0, 0, 0);
        dueHidden("squarified: below", t, 6, 7, 9, 10);
        dueShown("squarified: below the one with area", t, 8, 0, 0, 1, 1);
    }

    // ---- APPORTIONMENT

    /** The length is the width of the root, then the height of a node of depth 1. */
    private static void dueParts(String what, int length, int[] sizes, int... parts) {
        TreemapLayout across = made(SLICE, length, 1, sizes);
        TreemapLayout down = chain(SLICE, 1, length, 1);
        for (int size : sizes) {
            down.addNode(1, size);
        }
        int at = 0;
        for (int i = 0; i < parts.length; i++) {
            dueRect("parts across, " + what, across, i + 1, at, 0, parts[i], 1);
            dueRect("parts down, " + what, down, i + 2, 0, at, 1, parts[i]);
            at += parts[i];
        }
        due("parts, " + what + ": the whole length", at, length);
    }

    private static int[] sizes(int... sizes) {
        return sizes;
    }

    /** "first part i gets (si * L) / T, rounded down." */
    private static void nothingIsLeftOver() {
        dueParts("no remainder", 60, sizes(1, 2, 3), 10, 20, 30);
        dueParts("one part", 200, sizes(99), 200);
        dueParts("one part of one pixel", 1, sizes(1), 1);
        dueParts("rounded down, not to the nearest", 8, sizes(3, 3, 5, 2), 2, 2, 3, 1);
    }

    /** "Then the pixels that are left over are given .. to the parts with the largest remainders". */
    private static void leftOverGoesToTheLargestRemainders() {
        dueParts("largest first", 7, sizes(5, 3, 2), 4, 2, 1);
        dueParts("largest last", 11, sizes(3, 3, 4), 3, 3, 5);
        dueParts("the small part has the largest", 199, sizes(99, 1), 197, 2);
        dueParts("two of three", 10, sizes(8, 9, 6), 3, 4, 3);
    }

    /** "of equal remainders the part that comes first in the list is preferred." */
    private static void equalRemaindersPreferTheFirst() {
        dueParts("two equal behind a smaller one", 8, sizes(1, 3, 3), 1, 4, 3);
        dueParts("all equal", 7, sizes(1, 1, 1, 1, 1), 2, 2, 1, 1, 1);
        dueParts("equal, of unequal sizes", 2, sizes(1, 3), 1, 1);
        dueParts("equal, of unequal sizes, turned", 2, sizes(3, 1), 2, 0);
    }

    /** "given, one to each part". */
    private static void onePixelToEachPartAtMost() {
        dueParts("one to each", 50, sizes(98, 1, 1), 49, 1, 0);
        dueParts("one to each of two", 6, sizes(1, 1, 1, 1), 2, 2, 1, 1);
        dueParts("one to all but one", 7, sizes(1, 1, 1, 1), 2, 2, 2, 1);
    }

    /** The edge of "rounded down": parts of 0 pixels. */
    private static void fewerPixelsThanParts() {
        dueParts("one pixel", 1, sizes(1, 1, 1), 1, 0, 0);
        dueParts("one pixel for the middle", 1, sizes(1, 2, 1), 0, 1, 0);
        dueParts("two pixels", 2, sizes(1, 2, 1), 1, 1, 0);
        int[] parts = new int[22];
        parts[0] = 1;
        dueParts("one pixel for 22", 1, repeated(99, 22), parts);
    }

    /** The greatest tree and the greatest length. */
    private static void manyParts() {
        int[] parts = new int[22];
        // 99 * 200 = 9 * 2178 + 198, and 200 - 22 * 9 = 2.
        for (int i = 0; i < 22; i++) {
            parts[i] = i < 2 ? 10 : 9;
        }
        dueParts("22 of size 99", 200, repeated(99, 22), parts);
        int[] sizes = repeated(1, 22);
        sizes[21] = 99;
        // The total is 120: 200 = 1 * 120 + 80 and 99 * 200 = 165 * 120; 14 pixels are left over.
        for (int i = 0; i < 21; i++) {
            parts[i] = i < 14 ? 2 : 1;
        }
        parts[21] = 165;
        dueParts("21 of size 1 and one of 99", 200, sizes, parts);
    }

    // ---- SLICE-AND-DICE

    /**
     * "If the depth of the parent is even (the root has depth 0), .. they stand side by side ..
     * If the depth is odd, .. the children stand one below the other".
     */
    private static void evenAndOddDepth() {
        TreemapLayout t = made(SLICE, 8, 6, 1, 1);
        dueRect("depth 0", t, 1, 0, 0, 4, 6);
        dueRect("depth 0", t, 2, 4, 0, 4, 6);
        t.addNode(2, 1);
        t.addNode(2, 1);
        t.setSize(1, 2);
        dueRect("depth 1", t, 3, 4, 0, 4, 3);
        dueRect("depth 1", t, 4, 4, 3, 4, 3);
        t.addNode(4, 1);
        t.addNode(4, 1);
        t.setSize(3, 2);
        t.setSize(1, 4);
        dueRect("depth 2", t, 5, 4, 3, 2, 3);
        dueRect("depth 2", t, 6, 6, 3, 2, 3);
        t.setPadding(1);
        dueRect("depth 1, padded", t, 3, 5, 2, 1, 1);
        dueRect("depth 1, padded", t, 4, 5, 3, 1, 1);
    }

    /** The depth of the parent is the present one. */
    private static void depthChangesWithTheParent() {
        TreemapLayout t = chain(SLICE, 8, 6, 2);
        t.addNode(2, 1);
        t.addNode(2, 1);
        t.setSize(1, 2);
        dueRect("moved: depth 2", t, 3, 0, 0, 4, 6);
        dueRect("moved: depth 2", t, 4, 4, 0, 4, 6);
        t.setParent(2, 0);
        dueRect("moved: now depth 1", t, 3, 4, 0, 4, 3);
        dueRect("moved: now depth 1", t, 4, 4, 3, 4, 3);
        t.undo();
        dueRect("moved: depth 2 again", t, 4, 4, 0, 4, 6);
    }

    private static void deepestDepths() {
        TreemapLayout t = chain(SLICE, 8, 6, 21);
        t.addNode(21, 1);
        t.addNode(21, 1);
        dueRect("depth 21", t, 22, 0, 0, 8, 3);
        dueRect("depth 21", t, 23, 0, 3, 8, 3);
        t.undo();
        t.undo();
        t.setParent(21, 19);
        t.addNode(20, 1);
        t.addNode(20, 1);
        // Node 20 has the size 2 now and its brother 21 the size 1: 4 and 2 of 6 pixels.
        dueRect("depth 20", t, 22, 0, 0, 4, 4);
        dueRect("depth 20", t, 23, 4, 0, 4, 4);
    }

    // ---- STRIP

    /** "The first child opens the first strip." */
    private static void aLoneChildIsOneStrip() {
        int[][] canvases = {{1, 1}, {200, 1}, {1, 200}, {200, 200}};
        for (int[] size : canvases) {
            TreemapLayout t = made(STRIP, size[0], size[1], 99);
            dueRect("strip: lone child", t, 1, 0, 0, size[0], size[1]);
        }
    }

    /** "is added .. if the average .. with the child is less than or equal to the average .. without it". */
    private static void equalAveragesJoin() {
        TreemapLayout t = made(STRIP, 1, 1, 1, 1);
        dueRect("strip: 2 and 2", t, 1, 0, 0, 1, 1);
        dueRect("strip: 2 and 2", t, 2, 1, 0, 0, 1);
        t = made(STRIP, 60, 60, 1, 1);
        dueRect("strip: 2 and 2 in 60 by 60", t, 2, 30, 0, 30, 60);
        t.setCanvas(60, 61);
        dueRect("strip: one pixel too high", t, 1, 0, 0, 60, 31);
        dueRect("strip: one pixel too high", t, 2, 0, 31, 60, 30);
        t.setCanvas(61, 60);
        dueRect("strip: one pixel broader", t, 1, 0, 0, 31, 60);
        dueRect("strip: one pixel broader", t, 2, 31, 0, 30, 60);
    }

    /** "otherwise it opens a new strip": the current strip is then the new one. */
    private static void aGreaterAverageOpensANewStrip() {
        TreemapLayout t = made(STRIP, 10, 30, 1, 1, 1);
        dueRect("strip: three strips", t, 1, 0, 0, 10, 10);
        dueRect("strip: three strips", t, 2, 0, 10, 10, 10);
        dueRect("strip: three strips", t, 3, 0, 20, 10, 10);
        t = made(STRIP, 20, 40, 2, 1, 1);
        dueRect("strip: equal averages in the second", t, 1, 0, 0, 20, 20);
        dueRect("strip: equal averages in the second", t, 2, 0, 20, 10, 20);
        dueRect("strip: equal averages in the second", t, 3, 10, 20, 10, 20);
    }

    /** "the average aspect ratio": here 1.8 after 1.875, while the worst grows to 2.4. */
    private static void averageNotWorst() {
        TreemapLayout t = made(STRIP, 5, 4, 2, 1);
        dueRect("strip: average falls", t, 1, 0, 0, 3, 4);
        dueRect("strip: average falls", t, 2, 3, 0, 2, 4);
    }

    /** "in float arithmetic, each operation rounded to float", "evaluated from left to right". */
    private static void stripUsesFloats() {
        // Both averages are 5/3, but as floats the one with the third child is greater.
        TreemapLayout t = made(STRIP, 10, 5, 1, 2, 2);
        dueRect("strip: floats", t, 1, 0, 0, 3, 3);
        dueRect("strip: floats", t, 2, 3, 0, 7, 3);
        dueRect("strip: floats", t, 3, 0, 3, 10, 2);
        // Both averages are 2 here, and another order of the steps would make them unequal.
        t = made(STRIP, 7, 7, 3, 3);
        dueRect("strip: thickness from left to right", t, 1, 0, 0, 4, 7);
        dueRect("strip: thickness from left to right", t, 2, 4, 0, 3, 7);
        t = made(STRIP, 13, 13, 3, 3);
        dueRect("strip: length from left to right", t, 1, 0, 0, 7, 13);
        dueRect("strip: length from left to right", t, 2, 7, 0, 6, 13);
    }

    /** "added up from 0f in the order of the children": both averages are 2.225. */
    private static void stripAddsUpInOrder() {
        TreemapLayout t = made(STRIP, 20, 6, 3, 6, 1, 6);
        dueRect("strip: sum in order", t, 1, 0, 0, 4, 6);
        dueRect("strip: sum in order", t, 2, 4, 0, 8, 6);
        dueRect("strip: sum in order", t, 3, 12, 0, 1, 6);
        dueRect("strip: sum in order", t, 4, 13, 0, 7, 6);
    }

    /** "unit = (float) (w * h) / (float) T": below 1 where the sizes are more than the pixels. */
    private static void unitIsNotRoundedToPixels() {
        TreemapLayout t = made(STRIP, 1, 1, 2, 1);
        dueRect("strip: unit below 1", t, 1, 0, 0, 1, 1);
        dueRect("strip: unit below 1", t, 2, 0, 1, 1, 0);
    }

    /** As many strips as a tree can have: 200 = 8 * 23 + 16. */
    private static void twentyThreeStrips() {
        TreemapLayout t = made(STRIP, 1, 200, repeated(99, 23));
        int y = 0;
        for (int node = 1; node <= 23; node++) {
            int high = node <= 16 ? 9 : 8;
            dueRect("23 strips", t, node, 0, y, 1, high);
            y += high;
        }
        due("23 strips: leafPixels", t.leafPixels(), 200);
    }

    private static void twentyThreeChildrenInOneStrip() {
        TreemapLayout t = made(STRIP, 200, 1, repeated(99, 23));
        int x = 0;
        for (int node = 1; node <= 23; node++) {
            int wide = node <= 16 ? 9 : 8;
            dueRect("23 in a strip", t, node, x, 0, wide, 1);
            x += wide;
        }
        due("23 in a strip: leafPixels", t.leafPixels(), 200);
    }

    /** "the height .. is apportioned to the strips by the total sizes of their children, from top to bottom". */
    private static void stripsWithEqualRemainders() {
        TreemapLayout t = made(STRIP, 1, 5, 1, 1);
        dueRect("strips: equal remainders", t, 1, 0, 0, 1, 3);
        dueRect("strips: equal remainders", t, 2, 0, 3, 1, 2);
        t.setPadding(1);
        t.setCanvas(3, 7);
        dueRect("strips: equal remainders, padded", t, 1, 1, 1, 1, 3);
        dueRect("strips: equal remainders, padded", t, 2, 1, 4, 1, 2);
    }

    /** "w and h the width and height of the inner rectangle", which stands anywhere on the canvas. */
    private static void stripsInAnInnerRectangle() {
        TreemapLayout t = made(STRIP, 60, 60, 1, 4);
        t.addNode(2, 1);
        t.addNode(2, 1);
        // The node 2 has the size 2 now: both join in one strip, 20 and 40 pixels wide.
        dueRect("strips inside: parent", t, 2, 20, 0, 40, 60);
        dueRect("strips inside", t, 3, 20, 0, 40, 30);
        dueRect("strips inside", t, 4, 20, 30, 40, 30);
        t.setSize(1, 2);
        t.setCanvas(100, 50);
        dueRect("strips inside: parent", t, 2, 50, 0, 50, 50);
        dueRect("strips inside, one strip", t, 3, 50, 0, 25, 50);
        dueRect("strips inside, one strip", t, 4, 75, 0, 25, 50);
        t.setPadding(1);
        dueRect("strips inside: padded parent", t, 2, 50, 1, 49, 48);
        dueRect("strips inside, padded", t, 3, 51, 2, 24, 46);
        dueRect("strips inside, padded", t, 4, 75, 2, 23, 46);
    }

    // ---- SQUARIFIED

    /** "sorted by falling size; of equal sizes the lower number comes first". */
    private static void equalSizesLowerNumberFirst() {
        TreemapLayout t = made(SQUARIFIED, 6, 1, 1, 2, 1, 2);
        dueRect("sorted", t, 2, 0, 0, 2, 1);
        dueRect("sorted", t, 4, 2, 0, 2, 1);
        dueRect("sorted", t, 1, 4, 0, 1, 1);
        dueRect("sorted", t, 3, 5, 0, 1, 1);
        t.setParent(2, 1);
        t.setParent(2, 0);
        dueRect("sorted: joined again later", t, 2, 0, 0, 2, 1);
        t.setSize(1, 1);
        t.addNode(1, 99);
        dueRect("sorted: by the sum, not by the own size", t, 1, 0, 0, 6, 1);
        t = made(SQUARIFIED, 200, 1, repeated(7, 23));
        for (int node = 2; node <= 23; node++) {
            due("sorted: 23 equal sizes", t.x(node), t.x(node - 1) + t.width(node - 1));
        }
    }

    /** "The side is the smaller one of w and h; .. (if w equals h, the side is h and the length is w)." */
    private static void sideAndLength() {
        TreemapLayout t = made(SQUARIFIED, 10, 10, 1, 1);
        dueRect("side: equal, a column", t, 1, 0, 0, 10, 5);
        dueRect("side: equal, a column", t, 2, 0, 5, 10, 5);
        t.setCanvas(11, 10);
        dueRect("side: h", t, 1, 0, 0, 6, 10);
        dueRect("side: h", t, 2, 6, 0, 5, 10);
        t.setCanvas(10, 11);
        dueRect("side: w", t, 1, 0, 0, 10, 6);
        dueRect("side: w", t, 2, 0, 6, 10, 5);
    }

    /** "is added as long as the worst .. with the child is less than or equal to the worst .. without it." */
    private static void equalWorstRatiosJoin() {
        TreemapLayout t = made(SQUARIFIED, 1, 1, 1, 1);
        dueRect("worst: 2 and 2", t, 1, 0, 0, 1, 1);
        dueRect("worst: 2 and 2", t, 2, 0, 1, 1, 0);
        t = made(SQUARIFIED, 60, 60, 1, 1);
        dueRect("worst: 2 and 2 in 60 by 60", t, 2, 0, 30, 60, 30);
    }

    /** "The worst aspect ratio is the greatest": here 2.25 after 2, while the average falls to 1.6875. */
    private static void worstNotAverage() {
        TreemapLayout t = made(SQUARIFIED, 1, 1, 1, 2, 1);
        dueRect("worst grows", t, 2, 0, 0, 1, 1);
        dueRect("worst grows", t, 1, 1, 0, 0, 0);
        dueRect("worst grows", t, 3, 1, 0, 0, 0);
    }

    /**
     * "the greatest aspect ratio of the children of the row": 2.5, then 1.6 with the second child, then 5.
     * The third child counts for no row that it does not stand in: in the row of two it would have 3.2.
     */
    private static void worstOfTheRowAlone() {
        TreemapLayout t = made(SQUARIFIED, 10, 10, 2, 2, 1);
        dueRect("worst of the row", t, 1, 0, 0, 8, 5);
        dueRect("worst of the row", t, 2, 0, 5, 8, 5);
        dueRect("worst of the row: next row", t, 3, 8, 0, 2, 10);
    }

    /** "computed as for strips": in floats, from left to right. All worst ratios are 2 here. */
    private static void squarifiedUsesFloats() {
        TreemapLayout t = made(SQUARIFIED, 11, 11, 7, 7);
        dueRect("worst: as floats it grows", t, 1, 0, 0, 6, 11);
        dueRect("worst: as floats it grows", t, 2, 6, 0, 5, 11);
        t = made(SQUARIFIED, 5, 5, 11, 11);
        dueRect("worst: as doubles it would grow", t, 1, 0, 0, 5, 3);
        dueRect("worst: as doubles it would grow", t, 2, 0, 3, 5, 2);
        t = made(SQUARIFIED, 7, 7, 3, 3);
        dueRect("worst: thickness from left to right", t, 1, 0, 0, 7, 4);
        dueRect("worst: thickness from left to right", t, 2, 0, 4, 7, 3);
        t = made(SQUARIFIED, 13, 13, 3, 3);
        dueRect("worst: length from left to right", t, 1, 0, 0, 13, 7);
        dueRect("worst: length from left to right", t, 2, 0, 7, 13, 6);
    }

    /** "T the total size of the children that are not placed yet", "the free rectangle". */
    private static void totalOfTheChildrenNotPlaced() {
        TreemapLayout t = made(SQUARIFIED, 4, 2, 1, 1, 1);
        dueRect("not placed yet", t, 1, 0, 0, 1, 2);
        dueRect("not placed yet", t, 2, 1, 0, 2, 2);
        dueRect("not placed yet, the side is w", t, 3, 3, 0, 1, 2);
    }

    /** "The thickness of the row in pixels is (2 * S * length + T) / (2 * T), rounded down". */
    private static void thicknessIsRounded() {
        TreemapLayout t = made(SQUARIFIED, 4, 1, 1, 1, 1);
        dueRect("thickness: 4/3", t, 1, 0, 0, 1, 1);
        dueRect("thickness: 3/2", t, 2, 1, 0, 2, 1);
        dueRect("thickness: the rest", t, 3, 3, 0, 1, 1);
        t.setCanvas(5, 1);
        dueRect("thickness: 5/3", t, 1, 0, 0, 2, 1);
        dueRect("thickness: 3/2", t, 2, 2, 0, 2, 1);
        t.setCanvas(1, 4);
        dueRect("thickness downwards: 4/3", t, 1, 0, 0, 1, 1);
        dueRect("thickness downwards: 3/2", t, 2, 0, 1, 1, 2);
        dueRect("thickness downwards: the rest", t, 3, 0, 3, 1, 1);
    }

    /** A thickness of 0 pixels leaves the free rectangle as it is. */
    private static void thicknessOfNoPixels() {
        TreemapLayout t = made(SQUARIFIED, 1, 1, 1, 1, 1, 1, 1);
        dueRect("thickness 0", t, 1, 0, 0, 0, 1);
        dueRect("thickness 0", t, 2, 0, 1, 0, 0);
        dueRect("thickness 0: the next row", t, 3, 0, 0, 1, 1);
        t.setPadding(3);
        t.setCanvas(7, 7);
        dueRect("thickness 0, padded", t, 1, 3, 3, 0, 1);
        dueRect("thickness 0, padded: the next row", t, 3, 3, 3, 1, 1);
    }

    /** "if no children are left after the row, it is the whole length." */
    private static void lastRowTakesTheWholeLength() {
        TreemapLayout t = made(SQUARIFIED, 200, 1, 1);
        dueRect("whole length: lone child", t, 1, 0, 0, 200, 1);
        t.setCanvas(1, 200);
        dueRect("whole length: lone child", t, 1, 0, 0, 1, 200);
        t.setCanvas(1, 1);
        dueRect("whole length: lone child", t, 1, 0, 0, 1, 1);
        t.addNode(0, 1);
        dueRect("whole length: a row of two", t, 1, 0, 0, 1, 1);
        dueRect("whole length: a row of two", t, 2, 0, 1, 1, 0);
    }

    /** "The side is apportioned to the children of the row in their sorted order.": 5 and 3 have the same remainder. */
    private static void sideIsApportionedInSortedOrder() {
        TreemapLayout t = made(SQUARIFIED, 4, 4, 3, 3, 5);
        dueRect("sorted order", t, 3, 0, 0, 3, 3);
        dueRect("sorted order", t, 1, 0, 3, 3, 1);
        dueRect("sorted order", t, 2, 3, 0, 1, 4);
    }

    /**
     * "If w .. of the free rectangle is 0 while children are left, each child that is left gets
     * width and height 0 at the position of the free rectangle."
     */
    private static void freeWidthOf0() {
        TreemapLayout t = made(SQUARIFIED, 2, 1, 1, 99, 1);
        dueShown("free width 0", t, 2, 0, 0, 2, 1);
        dueShown("free width 0", t, 1, 2, 0, 0, 0);
        dueShown("free width 0", t, 3, 2, 0, 0, 0);
        t.setPadding(2);
        t.setCanvas(6, 5);
        dueShown("free width 0, padded", t, 1, 4, 2, 0, 0);
        t.addNode(3, 1);
        dueHidden("free width 0: below", t, 4);
    }

    /** "If .. h of the free rectangle is 0 while children are left" .. */
    private static void freeHeightOf0() {
        TreemapLayout t = made(SQUARIFIED, 1, 2, 1, 99, 1);
        dueShown("free height 0", t, 2, 0, 0, 1, 2);
        dueShown("free height 0", t, 1, 0, 2, 0, 0);
        dueShown("free height 0", t, 3, 0, 2, 0, 0);
        t.setPadding(2);
        t.setCanvas(5, 6);
        dueShown("free height 0, padded", t, 1, 2, 4, 0, 0);
        t.addNode(3, 1);
        dueHidden("free height 0: below", t, 4);
    }

    /** Without padding no pixel is lost, in the greatest tree as well, and none belongs to two leaves. */
    private static void twentyThreeChildrenFillTheCanvas() {
        int[][] canvases = {{1, 1}, {200, 200}, {1, 200}, {200, 1}, {13, 7}};
        for (int[] size : canvases) {
            TreemapLayout t = made(SQUARIFIED, size[0], size[1]);
            for (int i = 1; i <= 23; i++) {
                t.addNode(0, i * i % 100);
            }
            due("23 children: leafPixels", t.leafPixels(), size[0] * size[1]);
            due("23 children: first pixel", t.nodeAt(0, 0) > 0 ? 1 : 0, 1);
            due("23 children: last pixel", t.nodeAt(size[0] - 1, size[1] - 1) > 0 ? 1 : 0, 1);
        }
    }

    /** The children of an inner node are placed alone: those of the root, which are more, stay where they are. */
    private static void rowsInAnInnerRectangle() {
        TreemapLayout t = made(SQUARIFIED, 6, 1, 9, 2, 2);
        t.addNode(1, 1);
        t.addNode(1, 1);
        dueRect("rows inside", t, 4, 0, 0, 1, 1);
        dueRect("rows inside", t, 5, 1, 0, 1, 1);
        dueRect("rows inside: brothers", t, 2, 2, 0, 2, 1);
        dueRect("rows inside: brothers", t, 3, 4, 0, 2, 1);
        t = made(SQUARIFIED, 6, 1, 9, 99, 99);
        t.addNode(1, 99);
        t.addNode(1, 1);
        dueRect("rows inside, free width 0", t, 4, 0, 0, 2, 1);
        dueRect("rows inside, free width 0", t, 5, 2, 0, 0, 0);
        dueRect("rows inside, free width 0: brothers", t, 2, 2, 0, 2, 1);
        dueRect("rows inside, free width 0: brothers", t, 3, 4, 0, 2, 1);
    }

    // ---- UNDO

    /** "saves .. on an undo stack when it succeeds, also if it changes nothing." */
    private static void savedAlsoIfNothingChanges() {
        TreemapLayout t = new TreemapLayout();
        due("no change: setSize", t.setSize(0, 1), 1);
        due("no change: setSize is undone", t.undo(), 0);
        due("no change: setCanvas", t.setCanvas(100, 60), 100060);
        due("no change: setCanvas is undone", t.undo(), 0);
        due("no change: setPadding", t.setPadding(0), 0);
        due("no change: setPadding is undone", t.undo(), 0);
        due("no change: setMode", t.setMode(STRIP), STRIP);
        due("no change: setMode is undone", t.undo(), 0);
        t.addNode(0, 5);
        due("no change: setParent", t.setParent(1, 0), 0);
        due("no change: setParent is undone", t.undo(), 1);
        t.removeLeaf(1);
        due("removeLeaf is undone", t.undo(), 1);
        due("addNode is undone", t.undo(), 0);
        due("errors", t.errorCount(1), 0);
    }

    /** "The stack keeps the latest 4 saved states and drops older ones." */
    private static void fourStatesAreKept() {
        TreemapLayout t = new TreemapLayout();
        for (int size = 2; size <= 5; size++) {
            t.setSize(0, size);
        }
        for (int left = 3; left >= 0; left--) {
            due("four of four: left", t.undo(), left);
            due("four of four: size", t.size(0), left + 1);
        }
        dueRefused("four of four: empty", t, () -> t.undo(), REJECTED);
        for (int size = 11; size <= 15; size++) {
            t.setSize(0, size);
        }
        for (int left = 3; left >= 0; left--) {
            due("four of five: left", t.undo(), left);
            due("four of five: size", t.size(0), left + 11);
        }
        dueRefused("four of five: the oldest is dropped", t, () -> t.undo(), REJECTED);
        due("four of five: size", t.size(0), 11);
    }

    /** The latest states come first, whatever was saved and taken back before. */
    private static void slotsAreUsedAgain() {
        TreemapLayout t = new TreemapLayout();
        for (int size = 2; size <= 7; size++) {
            t.setSize(0, size);
        }
        due("slots: six saved", t.undo(), 3);
        due("slots: six saved", t.undo(), 2);
        due("slots: size", t.size(0), 5);
        for (int size = 20; size <= 22; size++) {
            t.setSize(0, size);
        }
        int[] sizes = {21, 20, 5, 4};
        for (int i = 0; i < 4; i++) {
            due("slots: left", t.undo(), 3 - i);
            due("slots: size", t.size(0), sizes[i]);
        }
        dueRefused("slots: empty", t, () -> t.undo(), REJECTED);
    }

    /** "saves .. when it succeeds": a failed call and a question do not. */
    private static void failedCallsAndQuestionsSaveNothing() {
        TreemapLayout t = new TreemapLayout();
        t.addNode(0, 0);
        t.setSize(0, 100);
        t.removeLeaf(0);
        t.setParent(0, 0);
        t.setCanvas(0, 0);
        t.setPadding(4);
        t.setMode(3);
        t.nodeAt(0, 0);
        t.changeBy(0, 9);
        t.worstAspect();
        t.averageAspect();
        dueRefused("saved: nothing", t, () -> t.undo(), REJECTED);
        for (int node = 1; node <= 23; node++) {
            t.addNode(0, 1);
        }
        t.addNode(0, 1);
        due("saved: not by a full tree", t.undo(), 3);
        due("saved: not by a full tree", t.nodeCount(), 23);
        t.undo();
        due("saved: not by undo itself", t.undo(), 1);
        due("saved: not by undo itself", t.nodeCount(), 21);
    }

    /** "The error counters are not saved." */
    private static void countersAreNotSaved() {
        TreemapLayout t = new TreemapLayout();
        t.setSize(0, 2);
        t.setSize(0, 100);
        t.removeLeaf(0);
        due("counters: undo", t.undo(), 0);
        due("counters: INVALID", t.errorCount(0), 1);
        due("counters: REJECTED", t.errorCount(1), 1);
        for (int i = 0; i < 24; i++) {
            t.addNode(0, 1);
        }
        t.undo();
        due("counters: FULL", t.errorCount(2), 1);
    }

    /** "saves the tree, the canvas, the padding and the mode". */
    private static void savedStateIsTheWholeState() {
        TreemapLayout t = made(SQUARIFIED, 50, 40, 3, 4, 5);
        t.addNode(2, 6);
        t.setPadding(1);
        t.setSize(2, 77);
        t.setPadding(1);
        t.setPadding(1);
        t.setPadding(1);
        long before = t.digest();
        t.removeLeaf(4);
        t.setMode(SLICE);
        t.setCanvas(9, 9);
        t.setPadding(2);
        for (int i = 0; i < 4; i++) {
            t.undo();
        }
        // Four states are on the stack before, none after: the fourth value of the digest.
        long weight = 1;
        for (int i = 0; i < 8 + 8 * 5; i++) {
            weight *= 31;
        }
        due("whole state: digest", t.digest(), before - 4 * weight);
        due("whole state: own size of a node with a child", t.setSize(2, 1), 77);
        due("whole state: mode", t.setMode(STRIP), SQUARIFIED);
        due("whole state: padding", t.setPadding(0), 1);
        due("whole state: canvas", t.setCanvas(1, 1), 50040);
    }

    // ---- ERRORS

    /** "If two errors apply, INVALID is returned before REJECTED". */
    private static void invalidBeforeRejected() {
        TreemapLayout t = made(STRIP, 100, 60, 4);
        dueRefused("INVALID first: the root below no node", t, () -> t.setParent(0, 2), INVALID);
        dueRefused("INVALID first: the root below -1", t, () -> t.setParent(0, -1), INVALID);
        dueRefused("INVALID first: no node below itself", t, () -> t.setParent(2, 2), INVALID);
        dueRefused("INVALID first: -1 below itself", t, () -> t.setParent(-1, -1), INVALID);
    }

    /** "INVALID is returned before .. FULL". */
    private static void invalidBeforeFull() {
        TreemapLayout t = made(STRIP, 100, 60, repeated(2, 23));
        dueRefused("INVALID first: size 0, full", t, () -> t.addNode(0, 0), INVALID);
        dueRefused("INVALID first: size 100, full", t, () -> t.addNode(0, 100), INVALID);
        dueRefused("INVALID first: parent 24, full", t, () -> t.addNode(24, 1), INVALID);
        dueRefused("INVALID first: parent -1, full", t, () -> t.addNode(-1, 1), INVALID);
        dueRefused("full", t, () -> t.addNode(23, 1), FULL);
    }

    /** "the counter of that error, which grows by 1." */
    private static void twoWrongArgumentsAreOneError() {
        TreemapLayout t = made(STRIP, 100, 60, 4);
        dueRefused("one error: addNode", t, () -> t.addNode(2, 0), INVALID);
        dueRefused("one error: setSize", t, () -> t.setSize(-1, 100), INVALID);
        dueRefused("one error: setParent", t, () -> t.setParent(2, -1), INVALID);
        dueRefused("one error: setCanvas", t, () -> t.setCanvas(0, 201), INVALID);
        dueRefused("one error: nodeAt", t, () -> t.nodeAt(100, 60), INVALID);
        dueRefused("one error: changeBy", t, () -> t.changeBy(2, 0), INVALID);
        dueRefused("one error: the root below itself", t, () -> t.setParent(0, 0), REJECTED);
        dueRefused("one error: the root, which has a child", t, () -> t.removeLeaf(0), REJECTED);
    }

    /** "NONE is returned only if no error applies." */
    private static void noneOnlyWithoutError() {
        TreemapLayout t = made(SLICE, 6, 6, 1);
        dueRefused("NONE: parent(-1)", t, () -> t.parent(-1), INVALID);
        dueRefused("NONE: parent(2)", t, () -> t.parent(2), INVALID);
        due("NONE: parent(0)", t.parent(0), NONE);
        t.setPadding(3);
        due("NONE: worstAspect", t.worstAspect(), NONE);
        due("NONE: averageAspect", t.averageAspect(), NONE);
        due("NONE is no error: INVALID", t.errorCount(0), 2);
        due("NONE is no error: REJECTED", t.errorCount(1), 0);
        due("NONE is no error: FULL", t.errorCount(2), 0);
    }

    /** "An object is used for at most 512 calls after it has been made". */
    private static void atMost512Calls() {
        TreemapLayout changed = new TreemapLayout();
        for (int call = 1; call <= 510; call++) {
            due("512 calls: setSize", changed.setSize(0, 1 + call % 99), call == 1 ? 1 : 1 + (call - 1) % 99);
        }
        due("512 calls: call 511", changed.undo(), 3);
        due("512 calls: call 512", changed.size(0), 1 + 509 % 99);
        TreemapLayout refused = new TreemapLayout();
        for (int call = 1; call <= 511; call++) {
            refused.undo();
        }
        due("512 calls: 511 errors", refused.errorCount(1), 511);
    }
}
