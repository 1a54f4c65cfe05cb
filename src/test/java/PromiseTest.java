/**
 * For each promise of the document its ordinary answers, the edges that the
 * document names and wrong inputs. The answers that are due were worked out by hand.
 */
public final class PromiseTest {
    private static int wrong = 0;

    public static void main(String[] args) {
        promise01NewObject();
        promise02AddNode();
        promise03SetSize();
        promise04RemoveLeaf();
        promise05SetParent();
        promise06SetCanvas();
        promise07SetPadding();
        promise08SetMode();
        promise09NodeCount();
        promise10Size();
        promise11Parent();
        promise12Depth();
        promise13LeafCount();
        promises14To17Slice();
        promises14To17Strip();
        promises14To17Squarified();
        promises14To17WrongNodes();
        promise18IsHidden();
        promise19NodeAt();
        promise20LeafPixels();
        promise21WorstAspect();
        promise22AverageAspect();
        promise23ChangeBy();
        promise24Undo();
        promise25ErrorCount();
        promise26Digest();
        wrongInputsChangeNothingElse();
        removedNodesLeaveNoTrace();
        exampleOfTheReadme();
        System.out.println(wrong == 0 ? "all answers are as due" : wrong + " answers are not as due");
        if (wrong != 0) {
            System.exit(1);
        }
    }

    private static void due(String what, long got, long want) {
        if (got != want) {
            wrong++;
            System.out.println(what + " answered " + got + ", due is " + want);
        }
    }

    private static void dueRect(String what, TreemapLayout t, int node, int x, int y, int w, int h) {
        due(what + ": x(" + node + ")", t.x(node), x);
        due(what + ": y(" + node + ")", t.y(node), y);
        due(what + ": width(" + node + ")", t.width(node), w);
        due(what + ": height(" + node + ")", t.height(node), h);
    }

    private static void dueErrors(String what, TreemapLayout t, int invalid, int rejected, int full) {
        due(what + ": errorCount(0)", t.errorCount(0), invalid);
        due(what + ": errorCount(1)", t.errorCount(1), rejected);
        due(what + ": errorCount(2)", t.errorCount(2), full);
    }

    private static TreemapLayout made(int mode, int width, int height, int... childrenOfRoot) {
        TreemapLayout t = new TreemapLayout();
        t.setMode(mode);
        t.setCanvas(width, height);
        for (int size : childrenOfRoot) {
            t.addNode(0, size);
        }
        return t;
    }

    private static void promise01NewObject() {
        TreemapLayout t = new TreemapLayout();
        due("1: nodeCount", t.nodeCount(), 1);
        due("1: leafCount", t.leafCount(), 1);
        due("1: size", t.size(0), 1);
        due("1: parent", t.parent(0), -1);
        due("1: depth", t.depth(0), 0);
        due("1: isHidden", t.isHidden(0), 0);
        dueRect("1", t, 0, 0, 0, 100, 60);
        due("1: undo", t.undo(), -3);
        dueErrors("1", t, 0, 1, 0);
        due("1: own size", t.setSize(0, 5), 1);
        due("1: canvas", t.setCanvas(1, 1), 100060);
        due("1: padding", t.setPadding(3), 0);
        due("1: mode", t.setMode(2), 1);
        TreemapLayout other = new TreemapLayout();
        due("1: objects are apart", other.setMode(0), 1);
    }

    private static void promise02AddNode() {
        TreemapLayout t = new TreemapLayout();
        due("2: size 0", t.addNode(0, 0), -2);
        due("2: size 100", t.addNode(0, 100), -2);
        due("2: size -1", t.addNode(0, -1), -2);
        due("2: least size", t.addNode(0, 1), 1);
        due("2: greatest size", t.addNode(1, 99), 2);
        due("2: no such parent", t.addNode(3, 1), -2);
        due("2: parent -1", t.addNode(-1, 1), -2);
        due("2: greatest int", t.addNode(Integer.MAX_VALUE, 1), -2);
        due("2: least int", t.addNode(Integer.MIN_VALUE, Integer.MIN_VALUE), -2);
        for (int node = 3; node < 24; node++) {
            due("2: next number", t.addNode(node % 3, 7), node);
        }
        due("2: full", t.addNode(0, 1), -4);
        due("2: INVALID before FULL, size", t.addNode(0, 0), -2);
        due("2: INVALID before FULL, parent", t.addNode(24, 1), -2);
        dueErrors("2", t, 9, 0, 1);
        due("2: nodeCount", t.nodeCount(), 24);
        due("2: undo", t.undo(), 3);
        due("2: nodeCount after undo", t.nodeCount(), 23);
        due("2: room again", t.addNode(22, 3), 23);
        due("2: parent", t.parent(23), 22);
    }

    private static void promise03SetSize() {
        TreemapLayout t = made(1, 100, 60, 4, 5);
        due("3: previous", t.setSize(1, 99), 4);
        due("3: previous again", t.setSize(1, 1), 99);
        due("3: root", t.setSize(0, 50), 1);
        due("3: own size of the root is kept, not used", t.size(0), 6);
        due("3: kept own size", t.setSize(0, 50), 50);
        due("3: size 0", t.setSize(1, 0), -2);
        due("3: size 100", t.setSize(1, 100), -2);
        due("3: no such node", t.setSize(3, 1), -2);
        due("3: node -1", t.setSize(-1, 1), -2);
        dueErrors("3", t, 4, 0, 0);
        due("3: undo of no change", t.undo(), 3);
        due("3: undo", t.undo(), 2);
        due("3: undo", t.undo(), 1);
        due("3: size after undo", t.size(1), 99);
        t.removeLeaf(2);
        t.removeLeaf(1);
        due("3: own size used again", t.size(0), 1);
    }

    private static void promise04RemoveLeaf() {
        TreemapLayout t = made(1, 100, 60, 4, 5, 6);
        t.addNode(3, 7);
        t.addNode(1, 8);
        t.setParent(2, 4);
        due("4: root", t.removeLeaf(0), -3);
        due("4: node with children", t.removeLeaf(3), -3);
        due("4: no such node", t.removeLeaf(6), -2);
        due("4: node -1", t.removeLeaf(-1), -2);
        due("4: leaf", t.removeLeaf(2), 5);
        due("4: parent of 1", t.parent(1), 0);
        due("4: parent of the old 3", t.parent(2), 0);
        due("4: parent of the old 4", t.parent(3), 2);
        due("4: parent of the old 5", t.parent(4), 1);
        due("4: size of the old 4", t.size(3), 7);
        due("4: size of the old 5", t.size(4), 8);
        due("4: last node", t.removeLeaf(4), 4);
        due("4: a leaf again has its own size", t.size(1), 4);
        due("4: undo", t.undo(), 3);
        due("4: undo", t.undo(), 2);
        due("4: nodeCount after undo", t.nodeCount(), 6);
        due("4: parent after undo", t.parent(2), 4);
        dueErrors("4", t, 2, 2, 0);
        due("4: a lone root", new TreemapLayout().removeLeaf(0), -3);
    }

    private static void promise05SetParent() {
        TreemapLayout t = made(1, 100, 60, 4, 5);
        t.addNode(1, 6);
        t.addNode(3, 7);
        due("5: to a descendant", t.setParent(1, 4), -3);
        due("5: to a child", t.setParent(1, 3), -3);
        due("5: to itself", t.setParent(1, 1), -3);
        due("5: the root", t.setParent(0, 2), -3);
        due("5: the root to itself", t.setParent(0, 0), -3);
        due("5: no such node", t.setParent(5, 0), -2);
        due("5: no such parent", t.setParent(1, 5), -2);
        due("5: INVALID before REJECTED", t.setParent(0, 5), -2);
        due("5: node -1", t.setParent(-1, 0), -2);
        due("5: parent -1", t.setParent(1, -1), -2);
        dueErrors("5", t, 5, 5, 0);
        due("5: same parent", t.setParent(3, 1), 1);
        due("5: move", t.setParent(3, 2), 1);
        due("5: descendants move, too", t.depth(4), 3);
        due("5: size of the old parent", t.size(1), 4);
        due("5: size of the new parent", t.size(2), 7);
        due("5: under a higher number", t.setParent(1, 4), 0);
        due("5: depth", t.depth(1), 4);
        due("5: size", t.size(0), 4);
        due("5: undo", t.undo(), 3);
        due("5: undo", t.undo(), 2);
        due("5: parent after undo", t.parent(3), 1);
        due("5: undo of no change", t.undo(), 1);
        due("5: parent after undo", t.parent(3), 1);
        due("5: nodeCount after undo", t.nodeCount(), 5);
    }

    private static void promise06SetCanvas() {
        TreemapLayout t = new TreemapLayout();
        due("6: least", t.setCanvas(1, 1), 100060);
        due("6: greatest", t.setCanvas(200, 200), 1001);
        due("6: width 0", t.setCanvas(0, 5), -2);
        due("6: height 0", t.setCanvas(5, 0), -2);
        due("6: width 201", t.setCanvas(201, 5), -2);
        due("6: height 201", t.setCanvas(5, 201), -2);
        due("6: negative", t.setCanvas(-5, -5), -2);
        due("6: previous", t.setCanvas(3, 4), 200200);
        dueRect("6", t, 0, 0, 0, 3, 4);
        dueErrors("6", t, 5, 0, 0);
        due("6: undo", t.undo(), 2);
        dueRect("6: undo", t, 0, 0, 0, 200, 200);
    }

    private static void promise07SetPadding() {
        TreemapLayout t = made(0, 20, 10, 1);
        due("7: greatest", t.setPadding(3), 0);
        dueRect("7: 3", t, 1, 3, 3, 14, 4);
        due("7: 4", t.setPadding(4), -2);
        due("7: -1", t.setPadding(-1), -2);
        due("7: previous", t.setPadding(1), 3);
        dueRect("7: 1", t, 1, 1, 1, 18, 8);
        due("7: no change", t.setPadding(1), 1);
        dueErrors("7", t, 2, 0, 0);
        due("7: undo", t.undo(), 3);
        due("7: undo", t.undo(), 2);
        dueRect("7: undo", t, 1, 3, 3, 14, 4);
        dueRect("7: the root keeps the canvas", t, 0, 0, 0, 20, 10);
    }

    private static void promise08SetMode() {
        TreemapLayout t = new TreemapLayout();
        due("8: SLICE", t.setMode(0), 1);
        due("8: SQUARIFIED", t.setMode(2), 0);
        due("8: STRIP", t.setMode(1), 2);
        due("8: 3", t.setMode(3), -2);
        due("8: -1", t.setMode(-1), -2);
        dueErrors("8", t, 2, 0, 0);
        due("8: undo", t.undo(), 2);
        due("8: previous after undo", t.setMode(0), 2);
        t = made(1, 60, 60, 1, 1, 1);
        t.setMode(0);
        dueRect("8: laid out anew", t, 3, 40, 0, 20, 60);
        t.undo();
        dueRect("8: laid out anew by undo", t, 3, 0, 40, 60, 20);
    }

    private static void promise09NodeCount() {
        TreemapLayout t = new TreemapLayout();
        due("9: new", t.nodeCount(), 1);
        for (int i = 0; i < 30; i++) {
            t.addNode(0, 1);
        }
        due("9: full", t.nodeCount(), 24);
        t.removeLeaf(7);
        due("9: removed", t.nodeCount(), 23);
    }

    private static void promise10Size() {
        TreemapLayout t = made(1, 100, 60, 4, 5);
        t.addNode(1, 10);
        t.addNode(1, 20);
        t.addNode(3, 99);
        due("10: leaf", t.size(2), 5);
        due("10: inner node", t.size(3), 99);
        due("10: sum", t.size(1), 119);
        due("10: root", t.size(0), 124);
        due("10: no such node", t.size(6), -2);
        due("10: -1", t.size(-1), -2);
        due("10: greatest int", t.size(Integer.MAX_VALUE), -2);
        dueErrors("10", t, 3, 0, 0);
        TreemapLayout full = new TreemapLayout();
        for (int i = 1; i < 24; i++) {
            full.addNode(0, 99);
        }
        due("10: greatest", full.size(0), 2277);
    }

    private static void promise11Parent() {
        TreemapLayout t = made(1, 100, 60, 4);
        t.addNode(1, 10);
        due("11: root", t.parent(0), -1);
        due("11: child", t.parent(1), 0);
        due("11: grandchild", t.parent(2), 1);
        due("11: no such node", t.parent(3), -2);
        due("11: -1", t.parent(-1), -2);
        dueErrors("11", t, 2, 0, 0);
    }

    private static void promise12Depth() {
        TreemapLayout t = new TreemapLayout();
        for (int node = 0; node < 23; node++) {
            t.addNode(node, 1);
        }
        for (int node = 0; node < 24; node++) {
            due("12: depth(" + node + ")", t.depth(node), node);
        }
        due("12: no such node", t.depth(24), -2);
        due("12: -1", t.depth(-1), -2);
        dueErrors("12", t, 2, 0, 0);
    }

    private static void promise13LeafCount() {
        TreemapLayout t = new TreemapLayout();
        due("13: root alone", t.leafCount(), 1);
        t.addNode(0, 1);
        due("13: one child", t.leafCount(), 1);
        t.addNode(0, 1);
        due("13: two children", t.leafCount(), 2);
        t.addNode(1, 1);
        due("13: a chain", t.leafCount(), 2);
        t.setParent(2, 1);
        due("13: moved", t.leafCount(), 2);
        for (int i = 0; i < 20; i++) {
            t.addNode(0, 1);
        }
        due("13: many", t.leafCount(), 22);
    }

    private static void promises14To17Slice() {
        TreemapLayout t = made(0, 10, 7, 1, 2);
        dueRect("slice: largest remainder", t, 1, 0, 0, 3, 7);
        dueRect("slice: largest remainder", t, 2, 3, 0, 7, 7);
        t = made(0, 11, 7, 1, 1, 1);
        dueRect("slice: equal remainders", t, 1, 0, 0, 4, 7);
        dueRect("slice: equal remainders", t, 2, 4, 0, 4, 7);
        dueRect("slice: equal remainders", t, 3, 8, 0, 3, 7);
        t.addNode(2, 5);
        t.addNode(2, 9);
        t.addNode(5, 1);
        t.addNode(5, 1);
        dueRect("slice: odd depth", t, 4, 1, 0, 9, 5);
        dueRect("slice: odd depth", t, 5, 1, 5, 9, 2);
        dueRect("slice: even depth", t, 6, 1, 5, 5, 2);
        dueRect("slice: even depth", t, 7, 6, 5, 4, 2);
        t = made(0, 1, 9, 1, 3, 2);
        dueRect("slice: width 0", t, 1, 0, 0, 0, 9);
        dueRect("slice: width 1", t, 2, 0, 0, 1, 9);
        dueRect("slice: width 0 behind", t, 3, 1, 0, 0, 9);
    }

    private static void promises14To17Strip() {
        TreemapLayout t = made(1, 60, 60, 1, 1);
        dueRect("strip: equal averages join", t, 1, 0, 0, 30, 60);
        dueRect("strip: equal averages join", t, 2, 30, 0, 30, 60);
        t = made(1, 60, 60, 1, 1, 1);
        dueRect("strip: first strip", t, 1, 0, 0, 30, 40);
        dueRect("strip: first strip", t, 2, 30, 0, 30, 40);
        dueRect("strip: second strip", t, 3, 0, 40, 60, 20);
        TreemapLayout late = made(1, 20, 40, 2, 1, 1);
        dueRect("strip: equal averages in a later strip", late, 1, 0, 0, 20, 20);
        dueRect("strip: equal averages in a later strip", late, 2, 0, 20, 10, 20);
        dueRect("strip: equal averages in a later strip", late, 3, 10, 20, 10, 20);
        t.setPadding(2);
        dueRect("strip: padding", t, 1, 2, 2, 28, 37);
        dueRect("strip: padding", t, 2, 30, 2, 28, 37);
        dueRect("strip: padding", t, 3, 2, 39, 56, 19);
        t = made(1, 1, 5, 1, 1);
        dueRect("strip: equal remainders of strips", t, 1, 0, 0, 1, 3);
        dueRect("strip: equal remainders of strips", t, 2, 0, 3, 1, 2);
        t = made(1, 60, 60, 1, 4);
        t.addNode(2, 1);
        t.addNode(2, 1);
        dueRect("strip: nested", t, 2, 20, 0, 40, 60);
        dueRect("strip: nested", t, 3, 20, 0, 40, 30);
        dueRect("strip: nested", t, 4, 20, 30, 40, 30);
    }

    private static void promises14To17Squarified() {
        TreemapLayout t = made(2, 60, 60, 1, 1);
        dueRect("squarified: a square has a column", t, 1, 0, 0, 60, 30);
        dueRect("squarified: a square has a column", t, 2, 0, 30, 60, 30);
        t = made(2, 5, 1, 1, 1);
        dueRect("squarified: a half is rounded up", t, 1, 0, 0, 3, 1);
        dueRect("squarified: the last row takes the rest", t, 2, 3, 0, 2, 1);
        t = made(2, 1, 5, 1, 1);
        dueRect("squarified: a row at the top", t, 1, 0, 0, 1, 3);
        dueRect("squarified: a row at the top", t, 2, 0, 3, 1, 2);
        t = made(2, 6, 1, 1, 2, 1, 2);
        dueRect("squarified: sorted, lower number first", t, 2, 0, 0, 2, 1);
        dueRect("squarified: sorted, lower number first", t, 4, 2, 0, 2, 1);
        dueRect("squarified: sorted, lower number first", t, 1, 4, 0, 1, 1);
        dueRect("squarified: sorted, lower number first", t, 3, 5, 0, 1, 1);
        t = made(2, 1, 1, 1, 1, 1, 1, 1);
        dueRect("squarified: thickness 0", t, 1, 0, 0, 0, 1);
        dueRect("squarified: thickness 0", t, 2, 0, 1, 0, 0);
        dueRect("squarified: next row", t, 3, 0, 0, 1, 1);
        dueRect("squarified: next row", t, 4, 0, 1, 1, 0);
        dueRect("squarified: nothing is free", t, 5, 1, 0, 0, 0);
        t.setPadding(1);
        t.setCanvas(3, 3);
        dueRect("squarified: nothing is free, padded", t, 5, 2, 1, 0, 0);
        due("squarified: nothing is free, not hidden", t.isHidden(5), 0);
    }

    private static void promises14To17WrongNodes() {
        TreemapLayout t = made(1, 100, 60, 4);
        int[] nodes = {2, 24, -1, Integer.MAX_VALUE, Integer.MIN_VALUE};
        for (int node : nodes) {
            dueRect("no such node", t, node, -2, -2, -2, -2);
        }
        dueErrors("14 to 17", t, 20, 0, 0);
    }

    private static void promise18IsHidden() {
        TreemapLayout t = made(0, 2, 9, 1);
        t.addNode(1, 1);
        due("18: padding 0", t.isHidden(2), 0);
        t.setPadding(1);
        due("18: child of an empty inner rectangle", t.isHidden(1), 1);
        due("18: its child", t.isHidden(2), 1);
        due("18: root", t.isHidden(0), 0);
        dueRect("18: hidden", t, 1, 0, 0, 0, 0);
        dueRect("18: hidden", t, 2, 0, 0, 0, 0);
        t.setCanvas(3, 9);
        due("18: width 1", t.isHidden(1), 0);
        dueRect("18: width 1", t, 1, 1, 1, 1, 7);
        due("18: inner width below 0", t.isHidden(2), 1);
        dueRect("18: inner width below 0", t, 2, 0, 0, 0, 0);
        t = made(0, 1, 5, 9, 1);
        t.addNode(2, 1);
        due("18: width 0 is not hidden", t.isHidden(2), 0);
        dueRect("18: width 0", t, 2, 1, 0, 0, 5);
        due("18: its child is", t.isHidden(3), 1);
        dueRect("18: its child", t, 3, 0, 0, 0, 0);
        due("18: no such node", t.isHidden(4), -2);
        due("18: -1", t.isHidden(-1), -2);
        dueErrors("18", t, 2, 0, 0);
    }

    private static void promise19NodeAt() {
        TreemapLayout t = made(0, 20, 10, 1, 1);
        t.addNode(1, 1);
        t.setPadding(2);
        due("19: padding of the root", t.nodeAt(1, 5), 0);
        due("19: node 1, its padding", t.nodeAt(2, 2), 1);
        due("19: node 3, first pixel", t.nodeAt(4, 4), 3);
        due("19: node 3, last pixel", t.nodeAt(7, 5), 3);
        due("19: right of node 3", t.nodeAt(8, 5), 1);
        due("19: below node 3", t.nodeAt(7, 6), 1);
        due("19: node 2, first pixel", t.nodeAt(10, 2), 2);
        due("19: node 2, last pixel", t.nodeAt(17, 7), 2);
        due("19: last pixel", t.nodeAt(19, 9), 0);
        due("19: px too great", t.nodeAt(20, 0), -2);
        due("19: py too great", t.nodeAt(0, 10), -2);
        due("19: px -1", t.nodeAt(-1, 0), -2);
        due("19: py -1", t.nodeAt(0, -1), -2);
        dueErrors("19", t, 4, 0, 0);
        t.setPadding(0);
        t.setParent(2, 3);
        due("19: the deepest, not the highest number", t.nodeAt(0, 0), 2);
        t = made(0, 10, 10, 1);
        t.addNode(0, 1);
        t.addNode(2, 1);
        t.setParent(1, 3);
        due("19: a low number can be the deepest", t.nodeAt(0, 0), 1);
    }

    private static void promise20LeafPixels() {
        TreemapLayout t = made(0, 20, 10, 1, 1);
        due("20: whole canvas", t.leafPixels(), 200);
        t.setPadding(2);
        due("20: padded", t.leafPixels(), 96);
        t.addNode(1, 1);
        due("20: padded twice", t.leafPixels(), 48 + 4 * 2);
        t.setPadding(3);
        due("20: hidden leaf", t.leafPixels(), 7 * 4);
        due("20: root alone", new TreemapLayout().leafPixels(), 6000);
    }

    private static void promise21WorstAspect() {
        TreemapLayout t = made(0, 20, 10, 1, 4);
        due("21: standing", t.worstAspect(), Float.floatToIntBits(10f / 4f));
        t.setCanvas(200, 1);
        due("21: lying", t.worstAspect(), Float.floatToIntBits(160f));
        t.setCanvas(1, 200);
        due("21: leaf without area", t.worstAspect(), Float.floatToIntBits(200f));
        t.setCanvas(7, 3);
        due("21: a third", t.worstAspect(), Float.floatToIntBits(3f));
        t.setPadding(3);
        due("21: no area", t.worstAspect(), -1);
        t = new TreemapLayout();
        for (int w = 1; w <= 200; w++) {
            t.setCanvas(w, 61);
            float due = w > 61 ? w / 61f : 61f / w;
            due("21: width " + w, t.worstAspect(), Float.floatToIntBits(due));
        }
    }

    private static void promise22AverageAspect() {
        TreemapLayout t = made(0, 20, 10, 1, 4);
        due("22: two leaves", t.averageAspect(), Float.floatToIntBits((10f / 4f + 16f / 10f) / 2f));
        t.addNode(1, 9);
        t.addNode(0, 1);
        t.setSize(3, 1);
        // The sizes 1, 4, 1 have equal remainders of the width 20: 4, 13 and 3 pixels.
        float first = 10f / 4f;
        float second = 13f / 10f;
        float third = 10f / 3f;
        due("22: width(1)", t.width(1), 4);
        due("22: by rising number", t.averageAspect(),
                Float.floatToIntBits(((second + first) + third) / 3f));
        t.setCanvas(1, 9);
        due("22: leaves without area are left out", t.averageAspect(), Float.floatToIntBits(9f));
        t.setPadding(3);
        due("22: no area", t.averageAspect(), -1);
    }

    private static void promise23ChangeBy() {
        TreemapLayout t = made(0, 100, 60, 1, 1);
        long before = t.digest();
        due("23: widths and x", t.changeBy(1, 3), 75);
        due("23: no change", t.changeBy(1, 1), 0);
        due("23: node with children", t.changeBy(0, 99), 0);
        due("23: changes nothing", t.digest(), before);
        due("23: size 0", t.changeBy(1, 0), -2);
        due("23: size 100", t.changeBy(1, 100), -2);
        due("23: no such node", t.changeBy(3, 1), -2);
        due("23: -1", t.changeBy(-1, 1), -2);
        dueErrors("23", t, 4, 0, 0);
        TreemapLayout down = made(0, 60, 100, 1);
        down.addNode(1, 1);
        down.addNode(1, 1);
        due("23: heights and y", down.changeBy(2, 3), 75);
        due("23: nothing is saved", down.undo(), 3);
        TreemapLayout alone = new TreemapLayout();
        due("23: root alone", alone.changeBy(0, 99), 0);
        due("23: nothing to undo", alone.undo(), -3);
    }

    private static void promise24Undo() {
        TreemapLayout t = new TreemapLayout();
        due("24: empty", t.undo(), -3);
        for (int size = 2; size <= 7; size++) {
            t.setSize(0, size);
        }
        t.setSize(0, 100);
        due("24: four are kept", t.undo(), 3);
        due("24: latest first", t.size(0), 6);
        due("24: third", t.undo(), 2);
        t.setCanvas(9, 8);
        due("24: a new one on top", t.undo(), 2);
        due("24: canvas", t.width(0), 100);
        due("24: second", t.undo(), 1);
        due("24: first", t.undo(), 0);
        due("24: older ones are dropped", t.size(0), 3);
        due("24: empty again", t.undo(), -3);
        dueErrors("24: counters stay", t, 1, 2, 0);
        t.setMode(2);
        t.setPadding(3);
        t.setCanvas(50, 50);
        t.addNode(0, 9);
        due("24: tree", t.undo(), 3);
        due("24: nodeCount", t.nodeCount(), 1);
        due("24: canvas", t.undo(), 2);
        due("24: width", t.width(0), 100);
        due("24: padding", t.undo(), 1);
        due("24: mode", t.undo(), 0);
        due("24: padding is back", t.setPadding(0), 0);
        due("24: mode is back", t.setMode(1), 1);
    }

    private static void promise25ErrorCount() {
        TreemapLayout t = new TreemapLayout();
        dueErrors("25: new", t, 0, 0, 0);
        due("25: 3", t.errorCount(3), -2);
        due("25: -1", t.errorCount(-1), -2);
        dueErrors("25: counted, too", t, 2, 0, 0);
        t.removeLeaf(0);
        t.undo();
        t.undo();
        for (int i = 0; i < 27; i++) {
            t.addNode(0, 1);
        }
        dueErrors("25: each kind", t, 2, 3, 4);
    }

    private static void promise26Digest() {
        TreemapLayout t = new TreemapLayout();
        int aspect = Float.floatToIntBits(100f / 60f);
        long[] alone = {0, 0, 0, 0, 100, 60, 0, 1, 1, 1, 1, -1, 0, 0, 100, 60, 0, 6000, aspect, aspect};
        due("26: new", t.digest(), hash(alone));
        t.addNode(0, 9);
        t.setMode(0);
        t.setSize(0, 7);
        t.setCanvas(8, 4);
        t.setPadding(2);
        t.undo();
        t.setPadding(1);
        t.setPadding(4);
        t.removeLeaf(0);
        int two = Float.floatToIntBits(3f);
        long[] pair = {1, 1, 0, 4, 8, 4, 1, 0, 2,
            7, 9, -1, 0, 0, 8, 4, 0,
            9, 9, 0, 1, 1, 6, 2, 0,
            12, two, two};
        due("26: two nodes", t.digest(), hash(pair));
        t.setCanvas(8, 2);
        long[] hidden = {1, 1, 0, 4, 8, 2, 1, 0, 2,
            7, 9, -1, 0, 0, 8, 2, 0,
            9, 9, 0, 0, 0, 0, 0, 1,
            0, -1, -1};
        due("26: hidden", t.digest(), hash(hidden));
        due("26: digest changes nothing", t.digest(), hash(hidden));
    }

    private static long hash(long[] values) {
        long h = 11759;
        for (long v : values) {
            h = 31 * h + v;
        }
        return h;
    }

    private static void removedNodesLeaveNoTrace() {
        TreemapLayout t = made(0, 100, 50, 1);
        t.addNode(1, 1);
        t.addNode(1, 1);
        due("removed: nodeAt before", t.nodeAt(0, 49), 3);
        t.removeLeaf(3);
        t.removeLeaf(2);
        due("removed: nodeAt", t.nodeAt(0, 49), 1);
        due("removed: leafCount", t.leafCount(), 1);
        due("removed: leafPixels", t.leafPixels(), 5000);
        due("removed: worstAspect", t.worstAspect(), Float.floatToIntBits(2f));
        due("removed: averageAspect", t.averageAspect(), Float.floatToIntBits(2f));
        due("removed: changeBy", t.changeBy(1, 99), 0);
        due("removed: x", t.x(2), -2);
    }

    private static void wrongInputsChangeNothingElse() {
        TreemapLayout t = made(2, 50, 40, 3, 4);
        TreemapLayout twin = made(2, 50, 40, 3, 4);
        t.addNode(9, 1);
        t.setSize(1, 0);
        t.removeLeaf(9);
        t.removeLeaf(0);
        t.setParent(0, 1);
        t.setParent(1, 9);
        t.setCanvas(0, 0);
        t.setPadding(9);
        t.setMode(9);
        t.nodeAt(50, 40);
        t.changeBy(9, 9);
        for (int i = 0; i < 9; i++) {
            twin.errorCount(9);
        }
        twin.removeLeaf(0);
        twin.removeLeaf(0);
        due("wrong inputs change their counter alone", t.digest(), twin.digest());
    }

    /** The inner rectangle is 98 by 58 at 1, 1: the sizes 30 and 5 make two rows of 84 and 14 pixels. */
    private static void exampleOfTheReadme() {
        TreemapLayout map = new TreemapLayout();
        int docs = map.addNode(0, 30);
        int code = map.addNode(0, 20);
        int tests = map.addNode(code, 5);
        due("README: docs", docs, 1);
        due("README: code", code, 2);
        due("README: tests", tests, 3);
        due("README: size of code", map.size(code), 5);
        due("README: setMode", map.setMode(TreemapLayout.SQUARIFIED), TreemapLayout.STRIP);
        due("README: setPadding", map.setPadding(1), 0);
        dueRect("README", map, docs, 1, 1, 84, 58);
        dueRect("README", map, code, 85, 1, 14, 58);
        dueRect("README", map, tests, 86, 2, 12, 56);
        due("README: nodeAt", map.nodeAt(90, 30), tests);
        // With 10 in place of 5 the first row has 74 pixels: x and width change by 10 each.
        due("README: changeBy", map.changeBy(tests, 10), 50);
        due("README: setSize", map.setSize(docs, 100), TreemapLayout.INVALID);
        due("README: errorCount", map.errorCount(0), 1);
        due("README: worstAspect", map.worstAspect(), Float.floatToIntBits(56f / 12f));
        due("README: undo", map.undo(), 3);
    }
}
