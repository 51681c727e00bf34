/** Boundary cases of the promises 12 to 20: properties of pens. */
public final class EdgesPenPropertiesTest {
    private EdgesPenPropertiesTest() {
    }

    public static void main(String[] args) {
        pens();
        exists();
        existsOfPensThatAreGone();
        feather();
        date();
        nestOf();
        indexOf();
        parentOfNoPen();
        parentOfTheFirstIndex();
        parentOf();
        depth();
        depthsOfAllIndices();
        rankOf();
        ranksOfTheEnds();
        Check.end();
    }

    private static void refusesNoPens(Edge.NumberCall call) {
        Edge.refusesNumbers("pen", Edge.NO_PENS, Nursery.ELEMENT, call);
        Edge.refused("the pen 0 of a new object", Nursery.ELEMENT, PenNursery::new, x -> call.on(x, 0));
        Edge.refused("the pen 24 of 24", Nursery.ELEMENT, Edge::full, x -> call.on(x, 24));
        Edge.refused("a pen that was uprooted", Nursery.ELEMENT, () -> {
            PenNursery x = Nursery.planted(1, 5, 6, 7);
            x.uproot(2);
            return x;
        }, x -> call.on(x, 2));
    }

    private static void pens() {
        Edge.promise(12, "Returns the number of pens in all nests.");
        PenNursery x = new PenNursery();
        Edge.due("none", x.pens(), 0);
        for (int i = 0; i < 24; i++) {
            x.plant(i % 4, 'a', 5);
            Edge.due("planted", x.pens(), i + 1);
        }
        Edge.thrown("one more", Nursery.STATE, () -> x.plant(0, 'a', 5));
        Edge.due("24", x.pens(), 24);
        for (int i = 0; i < 24; i++) {
            x.uproot(i);
            Edge.due("uprooted", x.pens(), 23 - i);
        }
    }

    private static void exists() {
        Edge.promise(13, "Returns true if there is such a pen.");
        for (int number : Edge.NO_PENS) {
            Edge.due("exists " + number, Edge.busy().exists(number), false);
        }
        for (int number = 1; number <= 6; number++) {
            Edge.due("exists " + number, Edge.busy().exists(number), true);
        }
        PenNursery full = Edge.full();
        Edge.due("the first one of 24", full.exists(0), true);
        Edge.due("the last one of 24", full.exists(23), true);
        Edge.due("one more", full.exists(24), false);
        Edge.due("none of none", new PenNursery().exists(0), false);
    }

    private static void existsOfPensThatAreGone() {
        Edge.promise(13, "Returns true if there is such a pen.");
        Edge.Call[] ways = {x -> x.uproot(0), x -> x.pick(0), x -> x.recall('a'), x -> Nursery.run(x, "pick 0")};
        for (int i = 0; i < ways.length; i++) {
            PenNursery x = Nursery.planted(0, 5);
            x.addInk('a', 1);
            Edge.due("before it is gone", x.exists(0), true);
            ways[i].on(x);
            Edge.due("gone, " + i, x.exists(0), false);
            x.undo();
            Edge.due("undone, " + i, x.exists(0), true);
        }
        PenNursery moved = Nursery.planted(0, 5);
        moved.move(0, 3);
        moved.merge(3, 1);
        moved.reorder(1);
        Edge.due("moved, not gone", moved.exists(0), true);
    }

    private static void feather() {
        Edge.promise(14, "Throws `NoSuchElementException` if there is no such pen");
        PenNursery x = Edge.busy();
        Edge.due("the least number", x.feather(1), 'a');
        Edge.due("the greatest number", x.feather(6), 'd');
        refusesNoPens((y, pen) -> y.feather(pen));
        Edge.promise(14, "Returns the feather.");
        PenNursery full = Edge.full();
        for (int i = 0; i < 24; i++) {
            Edge.due("feather of " + i, full.feather(i), (char) ('a' + i % 8));
        }
    }

    private static void date() {
        Edge.promise(15, "Throws `NoSuchElementException` if there is no such pen");
        PenNursery x = Edge.busy();
        Edge.due("the least number", x.date(1), 20);
        Edge.due("the greatest number, the least date", x.date(6), 0);
        Edge.due("the greatest date", x.date(5), 999);
        refusesNoPens((y, pen) -> y.date(pen));
        Edge.promise(15, "Returns the date.");
        x.sharpen(6, 999);
        x.blunt(5, 999);
        Edge.due("not below 0", x.date(6), 0);
        Edge.due("not above 999", x.date(5), 999);
    }

    private static void nestOf() {
        Edge.promise(16, "Throws `NoSuchElementException` if there is no such pen");
        PenNursery x = Edge.busy();
        Edge.due("the least number", x.nestOf(1), 0);
        Edge.due("the greatest number", x.nestOf(6), 2);
        refusesNoPens((y, pen) -> y.nestOf(pen));
        Edge.promise(16, "Returns the nest.");
        x.move(6, 3);
        Edge.due("after a move", x.nestOf(6), 3);
        x.merge(0, 1);
        Edge.due("after a merge", x.nestOf(1), 1);
    }

    private static void indexOf() {
        Edge.promise(17, "Throws `NoSuchElementException` if there is no such pen");
        PenNursery x = Edge.busy();
        Edge.due("the least number", x.indexOf(1), 1);
        Edge.due("the greatest number", x.indexOf(6), 0);
        refusesNoPens((y, pen) -> y.indexOf(pen));
        Edge.promise(17, "Returns the index.");
        PenNursery full = Edge.fullNest(3);
        for (int i = 0; i < 24; i++) {
            Edge.due("index of " + i, full.indexOf(i), i);
        }
    }

    private static void parentOfNoPen() {
        Edge.promise(18, "Throws `NoSuchElementException` if there is no such pen, or its index is 0");
        PenNursery x = Edge.busy();
        Edge.due("the least number", x.parentOf(1), 2);
        Edge.due("at the index 2", x.parentOf(3), 2);
        refusesNoPens((y, pen) -> y.parentOf(pen));
    }

    private static void parentOfTheFirstIndex() {
        Edge.promise(18, "Throws `NoSuchElementException` if there is no such pen, or its index is 0");
        for (int pen : new int[] {2, 4, 6}) {
            Edge.refused("the pen " + pen + " at the index 0", Nursery.ELEMENT, Edge::busy, x -> x.parentOf(pen));
        }
        for (int i = 0; i < 4; i++) {
            int nest = i;
            Edge.refused("the only pen of the nest " + nest, Nursery.ELEMENT, () -> Nursery.planted(nest, 5),
                    x -> x.parentOf(0));
            Edge.refused("the first one of 24", Nursery.ELEMENT, () -> Edge.fullNest(nest), x -> x.parentOf(0));
        }
    }

    private static void parentOf() {
        Edge.promise(18, "Returns the pen at the parent.");
        PenNursery two = Nursery.planted(0, 6, 5);
        Edge.due("the index 1 of two", two.parentOf(0), 1);
        PenNursery full = Edge.fullNest(0);
        for (int i = 1; i < 24; i++) {
            Edge.due("parent of " + i, full.parentOf(i), (i - 1) / 2);
        }
    }

    private static void depth() {
        Edge.promise(19, "Throws `NoSuchElementException` if there is no such pen");
        PenNursery x = Edge.busy();
        Edge.due("the least number", x.depth(1), 1);
        Edge.due("the greatest number", x.depth(6), 0);
        refusesNoPens((y, pen) -> y.depth(pen));
    }

    private static void depthsOfAllIndices() {
        Edge.promise(19, "Returns the number of parents, 0 for the pen at the index 0.");
        int[] depths = {0, 1, 1, 2, 2, 2, 2, 3, 3, 3, 3, 3, 3, 3, 3, 4, 4, 4, 4, 4, 4, 4, 4, 4};
        PenNursery full = Edge.fullNest(1);
        for (int i = 0; i < 24; i++) {
            Edge.due("depth at the index " + i, full.depth(i), depths[i]);
        }
        for (int nest = 0; nest < 4; nest++) {
            Edge.due("depth of the only pen", Nursery.planted(nest, 999).depth(0), 0);
        }
    }

    private static void rankOf() {
        Edge.promise(20, "Throws `NoSuchElementException` if there is no such pen");
        PenNursery x = Edge.busy();
        Edge.due("the least number", x.rankOf(1), 2);
        Edge.due("the greatest number", x.rankOf(6), 0);
        refusesNoPens((y, pen) -> y.rankOf(pen));
    }

    private static void ranksOfTheEnds() {
        Edge.promise(20, "Returns the number of pens of the nest of a pen that are sharper than it.");
        Edge.due("the only pen", Nursery.planted(2, 999).rankOf(0), 0);
        PenNursery equal = new PenNursery();
        for (int i = 0; i < 24; i++) {
            equal.plant(1, 'a', 999);
        }
        for (int i = 0; i < 24; i++) {
            Edge.due("equal dates: by the numbers", equal.rankOf(i), i);
        }
        PenNursery reversed = new PenNursery();
        for (int i = 0; i < 24; i++) {
            reversed.plant(1, 'a', 23 - i);
        }
        for (int i = 0; i < 24; i++) {
            Edge.due("the last one is the sharpest", reversed.rankOf(i), 23 - i);
        }
        PenNursery apart = Nursery.planted(0, 5, 6);
        apart.plant(1, 'a', 9);
        Edge.due("sharper pens of other nests do not count", apart.rankOf(2), 0);
        Edge.due("pens of its own nest do", apart.rankOf(1), 1);
    }
}
