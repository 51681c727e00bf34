/** Boundary cases of the promises 9 to 11: merge, reorder, recall. */
public final class EdgesNestsTest {
    private EdgesNestsTest() {
    }

    public static void main(String[] args) {
        mergeNests();
        mergeWithItself();
        mergeOfEmptyNests();
        mergeOfAllPens();
        mergeInAscendingOrder();
        mergeReturns();
        reorderNests();
        reorderOfFewPens();
        reorderByNumbers();
        reorderReturns();
        recallFeathers();
        recallOfNone();
        recallOfAll();
        recallKeepsTheOrder();
        recallOrdersEachNest();
        Check.end();
    }

    // ---- promise 9

    private static void mergeNests() {
        Edge.promise(9, "Throws `IndexOutOfBoundsException` if one of the nests does not exist");
        for (int from = 0; from < 4; from++) {
            for (int to = 0; to < 4; to++) {
                if (from != to) {
                    PenNursery x = Nursery.planted(from, 5, 6);
                    Edge.due("merge " + from + " " + to, x.merge(from, to), 2);
                    Edge.due("size", x.size(to), 2);
                }
            }
        }
        for (int i = 0; i < 4; i++) {
            int nest = i;
            Edge.refusesNumbers("from", Edge.NO_NESTS, Nursery.INDEX, (x, from) -> x.merge(from, nest));
            Edge.refusesNumbers("to", Edge.NO_NESTS, Nursery.INDEX, (x, to) -> x.merge(nest, to));
        }
        for (int from : Edge.NO_NESTS) {
            Edge.refusesNumbers("both", Edge.NO_NESTS, Nursery.INDEX, (x, to) -> x.merge(from, to));
        }
    }

    private static void mergeWithItself() {
        Edge.promise(9, "Throws `IllegalArgumentException` if both nests are the same one");
        for (int i = 0; i < 4; i++) {
            int nest = i;
            Edge.refused("nest " + nest, Nursery.ARGUMENT, Edge::busy, x -> x.merge(nest, nest));
            Edge.refused("an empty nest " + nest, Nursery.ARGUMENT, PenNursery::new, x -> x.merge(nest, nest));
            Edge.refused("a full nest " + nest, Nursery.ARGUMENT, () -> Edge.fullNest(nest), x -> x.merge(nest, nest));
        }
    }

    private static void mergeOfEmptyNests() {
        Edge.promise(9, "Empties a nest, and adds its pens to another one");
        PenNursery x = new PenNursery();
        Edge.due("two empty nests", x.merge(0, 3), 0);
        Edge.due("that is a change", x.undo(), 0);
        PenNursery y = Nursery.planted(0, 7, 6, 5);
        String before = Nursery.state(y);
        Edge.due("an empty nest to another one", y.merge(3, 0), 3);
        Edge.due("state", Nursery.state(y), before);
        Edge.due("to an empty nest", y.merge(0, 3), 3);
        Edge.due("nest 0", Nursery.nest(y, 0), "");
        Edge.due("nest 3", Nursery.nest(y, 3), "2a5 0a7 1a6");
        Edge.thrown("the nest is empty", Nursery.ELEMENT, () -> y.penAt(0, 0));
        Edge.due("exchanges of a heap that is added", y.exchanges(), 2L);
    }

    private static void mergeOfAllPens() {
        Edge.promise(9, "Empties a nest, and adds its pens to another one");
        PenNursery x = Edge.fullNest(0);
        Edge.due("24 pens to an empty nest", x.merge(0, 1), 24);
        Edge.due("sizes", "" + x.size(0) + x.size(1), "024");
        Edge.due("an empty nest to 24 pens", x.merge(2, 1), 24);
        x.move(0, 3);
        Edge.due("23 pens to one", x.merge(1, 3), 24);
        x.move(23, 2);
        Edge.due("one pen to 23", x.merge(2, 3), 24);
        Edge.due("isConsistent", x.isConsistent(), true);
        Edge.due("pens", x.pens(), 24);
        PenNursery y = Edge.full();
        Edge.due("6 to 6", y.merge(0, 1), 12);
        Edge.due("12 to 6", y.merge(1, 2), 18);
        Edge.due("18 to 6", y.merge(2, 3), 24);
        Edge.due("isConsistent", y.isConsistent(), true);
    }

    private static void mergeInAscendingOrder() {
        Edge.promise(9, "one after the other, in ascending order of the indices that they had");
        PenNursery x = Nursery.planted(0, 3, 5, 4);
        x.plant(1, 'b', 6);
        Edge.due("merge", x.merge(0, 1), 4);
        Edge.due("nest 1", Nursery.nest(x, 1), "0a3 2a4 1a5 3b6");
        Edge.due("exchanges", x.exchanges(), 2L);
    }

    private static void mergeReturns() {
        Edge.promise(9, "Returns the number of pens of the other nest afterwards.");
        PenNursery x = Nursery.planted(2, 3, 5, 4);
        x.plant(1, 'b', 6);
        Edge.due("3 and 1", x.merge(2, 1), 4);
        Edge.due("4 and 0", x.merge(1, 2), 4);
        Edge.due("0 and 4", x.merge(1, 2), 4);
        Edge.due("0 and 0", x.merge(1, 3), 0);
    }

    // ---- promise 10

    private static void reorderNests() {
        Edge.promise(10, "Throws `IndexOutOfBoundsException` if there is no such nest");
        Edge.due("nest 0", Nursery.planted(0, 2, 1).reorder(0), 1);
        Edge.due("nest 3", Nursery.planted(3, 2, 1).reorder(3), 1);
        Edge.refusesNumbers("nest", Edge.NO_NESTS, Nursery.INDEX, (x, nest) -> x.reorder(nest));
    }

    private static void reorderOfFewPens() {
        Edge.promise(10, "and then orders the nest");
        for (int nest = 0; nest < 4; nest++) {
            PenNursery x = new PenNursery();
            Edge.due("an empty nest", x.reorder(nest), 0);
            Edge.due("that is a change", x.undo(), 0);
            x.plant(nest, 'a', 999);
            Edge.due("one pen", x.reorder(nest), 0);
            Edge.due("nest", Nursery.nest(x, nest), "0a999");
            Edge.due("exchanges", x.exchanges(), 0L);
        }
    }

    private static void reorderByNumbers() {
        Edge.promise(10, "Gives the pens of a nest new indices in ascending order of their numbers");
        PenNursery equal = Nursery.planted(0, 5, 5, 5, 5);
        equal.move(0, 1);
        equal.move(0, 0);
        equal.sharpen(3, 1);
        Edge.due("nest", Nursery.nest(equal, 0), "3a4 0a5 2a5 1a5");
        Edge.due("reorder", equal.reorder(0), 2);
        Edge.due("nest", Nursery.nest(equal, 0), "3a4 0a5 2a5 1a5");
        PenNursery gaps = Nursery.planted(0, 9, 8, 7, 6, 5);
        gaps.uproot(0);
        gaps.uproot(3);
        Edge.due("numbers with gaps", gaps.reorder(0), 1);
        Edge.due("nest", Nursery.nest(gaps, 0), "4a5 2a7 1a8");
        PenNursery far = new PenNursery();
        for (int i = 0; i < 12; i++) {
            far.plant(0, 'a', i);
            far.uproot(i);
        }
        far.plant(0, 'a', 3);
        far.plant(1, 'a', 1);
        far.plant(1, 'a', 2);
        far.merge(1, 0);
        Edge.due("numbers of two digits", far.reorder(0), 1);
        Edge.due("nest", Nursery.nest(far, 0), "13a1 12a3 14a2");
    }

    private static void reorderReturns() {
        Edge.promise(10, "Returns the number of exchanges while the nest is ordered.");
        PenNursery x = Nursery.planted(1, 4, 3, 2, 1);
        long before = x.exchanges();
        Edge.due("exchanges before it do not count", before, 4L);
        Edge.due("reorder", x.reorder(1), 3);
        Edge.due("they count among all", x.exchanges(), 7L);
        PenNursery sorted = Edge.fullNest(2);
        Edge.due("24 pens that are in order", sorted.reorder(2), 0);
        PenNursery reversed = new PenNursery();
        for (int i = 0; i < 24; i++) {
            reversed.plant(3, 'a', 999 - i);
        }
        long planting = reversed.exchanges();
        Edge.due("24 pens in the reverse order", reversed.reorder(3), 20);
        Edge.due("they count among all", reversed.exchanges(), planting + 20);
        Edge.due("isConsistent", reversed.isConsistent(), true);
    }

    // ---- promise 11

    private static void recallFeathers() {
        Edge.promise(11, "Throws `IllegalArgumentException` if the character is not a feather");
        PenNursery x = Edge.full();
        Edge.due("a", x.recall('a'), 3);
        Edge.due("h", x.recall('h'), 3);
        Edge.refusesFeathers("feather", (y, feather) -> y.recall(feather));
    }

    private static void recallOfNone() {
        Edge.promise(11, "Returns the number of recalled pens, 0 if there are none.");
        PenNursery empty = new PenNursery();
        PenNursery x = Edge.quiet();
        String before = Nursery.state(x);
        for (char feather : new char[] {'e', 'f', 'g', 'h'}) {
            Edge.due("recall of no pens", empty.recall(feather), 0);
            Edge.due("recall of a feather without pens", x.recall(feather), 0);
        }
        Edge.due("state", Nursery.state(x), before);
        Edge.due("they are changes", x.undo(), 7);
        Edge.due("recall of one", x.recall('c'), 1);
        Edge.due("recall of the same feather again", x.recall('c'), 0);
    }

    private static void recallOfAll() {
        Edge.promise(11, "Recalls all pens with a feather, which are no pens any more");
        for (int nest = 0; nest < 4; nest++) {
            PenNursery x = Edge.fullNest(nest);
            Edge.due("24 pens of a nest", x.recall('a'), 24);
            Edge.due("pens", x.pens(), 0);
            Edge.due("size", x.size(nest), 0);
            Edge.due("exists", x.exists(0) || x.exists(23), false);
            Edge.due("undo", x.undo(), 7);
            Edge.due("pens", x.pens(), 24);
        }
        PenNursery y = new PenNursery();
        for (int i = 0; i < 24; i++) {
            y.plant(i % 4, 'h', i);
        }
        Edge.due("24 pens of four nests", y.recall('h'), 24);
        Edge.due("pens", y.pens(), 0);
        Edge.due("they were not picked", y.picked(), 0);
        PenNursery z = Nursery.planted(1, 5);
        Edge.due("the only pen", z.recall('a'), 1);
        Edge.due("levels", z.levels(1), 0);
    }

    private static void recallKeepsTheOrder() {
        Edge.promise(11, "the other pens get new indices, in which they keep their order");
        char[] feathers = {'b', 'a', 'a', 'b', 'a', 'a', 'b'};
        for (char recalled = 'a'; recalled <= 'b'; recalled++) {
            PenNursery x = new PenNursery();
            for (int i = 0; i < feathers.length; i++) {
                x.plant(3, feathers[i], i);
            }
            Edge.due("recall", x.recall(recalled), recalled == 'a' ? 4 : 3);
            Edge.due("nest", Nursery.nest(x, 3), recalled == 'a' ? "0b0 3b3 6b6" : "1a1 2a2 4a4 5a5");
            Edge.due("exchanges", x.exchanges(), 0L);
        }
        PenNursery ends = Nursery.planted(0, 5, 6, 7);
        ends.plant(0, 'b', 4);
        ends.plant(0, 'b', 9);
        Edge.due("the first one and the last one", ends.recall('b'), 2);
        Edge.due("the others are ordered", Nursery.nest(ends, 0), "0a5 2a7 1a6");
    }

    private static void recallOrdersEachNest() {
        Edge.promise(11, "and then the nest is ordered");
        PenNursery x = new PenNursery();
        for (int nest = 0; nest < 4; nest++) {
            x.plant(nest, 'b', 1);
            x.plant(nest, 'a', 30);
            x.plant(nest, 'a', 10);
            x.plant(nest, 'a', 31);
        }
        Edge.due("exchanges", x.exchanges(), 0L);
        Edge.due("recall", x.recall('b'), 4);
        for (int nest = 0; nest < 4; nest++) {
            int first = 4 * nest;
            Edge.due("nest " + nest, Nursery.nest(x, nest),
                    (first + 2) + "a10 " + (first + 1) + "a30 " + (first + 3) + "a31");
        }
        Edge.due("exchanges", x.exchanges(), 4L);
    }
}
