/** Boundary cases of the promises 29 to 36: feathers, ink and statistics. */
public final class EdgesStatisticsTest {
    private EdgesStatisticsTest() {
    }

    public static void main(String[] args) {
        pensWithFeathers();
        pensWithCounts();
        inkFeathers();
        inkStocks();
        commonFeatherWithoutPens();
        commonFeatherOfSeveral();
        picked();
        exchanges();
        exchangesOfQueries();
        meanDateWithoutPens();
        meanDates();
        pickedShareWithoutPlants();
        pickedShares();
        isConsistent();
        isConsistentAtTheEnds();
        Check.end();
    }

    // ---- promises 29 and 30

    private static void pensWithFeathers() {
        Edge.promise(29, "Throws `IllegalArgumentException` if the character is not a feather");
        PenNursery x = Edge.busy();
        Edge.due("a", x.pensWith('a'), 2);
        Edge.due("h", x.pensWith('h'), 0);
        Edge.refusesFeathers("feather", (y, feather) -> y.pensWith(feather));
    }

    private static void pensWithCounts() {
        Edge.promise(29, "Returns the number of pens.");
        for (char feather = 'a'; feather <= 'h'; feather++) {
            PenNursery x = new PenNursery();
            Edge.due("none", x.pensWith(feather), 0);
            for (int i = 0; i < 24; i++) {
                x.plant(i % 4, feather, 5);
                Edge.due("planted", x.pensWith(feather), i + 1);
            }
            Edge.due("another feather", x.pensWith(feather == 'a' ? 'h' : 'a'), 0);
            x.uproot(0);
            Edge.due("after uproot", x.pensWith(feather), 23);
            x.recall(feather);
            Edge.due("after recall", x.pensWith(feather), 0);
        }
    }

    private static void inkFeathers() {
        Edge.promise(30, "Throws `IllegalArgumentException` if the character is not a feather");
        PenNursery x = Edge.busy();
        Edge.due("a", x.ink('a'), 3);
        Edge.due("h", x.ink('h'), 999);
        Edge.refusesFeathers("feather", (y, feather) -> y.ink(feather));
    }

    private static void inkStocks() {
        Edge.promise(30, "Returns the number of drops.");
        PenNursery x = Nursery.planted(0, 5);
        Edge.due("no drop", x.ink('a'), 0);
        x.addInk('a', 1);
        Edge.due("one drop", x.ink('a'), 1);
        x.pick(0);
        Edge.due("no drop again", x.ink('a'), 0);
        x.addInk('a', 999);
        x.addInk('a', 999);
        Edge.due("the full stock", x.ink('a'), 999);
    }

    // ---- promise 31

    private static void commonFeatherWithoutPens() {
        Edge.promise(31, "Throws `NoSuchElementException` if there are no pens");
        Edge.refused("a new object", Nursery.ELEMENT, PenNursery::new, PenNursery::commonFeather);
        Edge.Call[] ways = {x -> x.uproot(0), x -> x.pick(0), x -> x.recall('a'), x -> x.undo(),
            x -> Nursery.run(x, "uproot 0")};
        for (int i = 0; i < ways.length; i++) {
            Edge.Call way = ways[i];
            Edge.refused("the only pen is gone, " + i, Nursery.ELEMENT, () -> {
                PenNursery x = new PenNursery();
                x.addInk('a', 1);
                x.plant(0, 'a', 5);
                way.on(x);
                return x;
            }, PenNursery::commonFeather);
        }
        for (char feather = 'a'; feather <= 'h'; feather++) {
            PenNursery x = new PenNursery();
            x.plant(3, feather, 999);
            Edge.due("one pen", x.commonFeather(), feather);
        }
    }

    private static void commonFeatherOfSeveral() {
        Edge.promise(31, "and of several the first one in the alphabet");
        PenNursery x = new PenNursery();
        for (char feather = 'h'; feather >= 'a'; feather--) {
            x.plant(0, feather, feather - 'a');
            Edge.due("one of each from " + feather, x.commonFeather(), feather);
        }
        x.plant(1, 'h', 5);
        Edge.due("two of h", x.commonFeather(), 'h');
        x.plant(2, 'g', 5);
        Edge.due("two of g and of h", x.commonFeather(), 'g');
        x.plant(3, 'h', 5);
        Edge.due("three of h", x.commonFeather(), 'h');
        Edge.due("24 of all feathers", Edge.full().commonFeather(), 'a');
        Edge.due("24 of a", Edge.fullNest(3).commonFeather(), 'a');
    }

    // ---- promises 32 and 33

    private static void picked() {
        Edge.promise(32, "Returns the number of pens that were picked so far.");
        PenNursery x = new PenNursery();
        Edge.due("none", x.picked(), 0);
        x.addInk('a', 999);
        for (int i = 0; i < 100; i++) {
            x.plant(0, 'a', 5);
            x.pick(0);
        }
        Edge.due("more than there can be at once", x.picked(), 100);
        Edge.thrown("pick of an empty nest", Nursery.ELEMENT, () -> x.pick(0));
        Edge.due("a refused call does not count", x.picked(), 100);
        x.plant(0, 'a', 5);
        x.uproot(100);
        x.plant(0, 'a', 5);
        x.recall('a');
        Edge.due("uproot and recall do not count", x.picked(), 100);
        Edge.thrown("a program that fails", Nursery.UNSUPPORTED, () -> Nursery.run(x, "plant 0a@1;pick 0;pick 0"));
        Edge.due("a failed command's program does not count", x.picked(), 100);
        Nursery.run(x, "plant 0a@1;plant 0a@1;pick 0;pick 0");
        Edge.due("picks of a program count", x.picked(), 102);
        x.undo();
        Edge.due("until they are undone", x.picked(), 100);
    }

    private static void exchanges() {
        Edge.promise(33, "Returns the number of exchanges so far, in all changes.");
        Edge.due("none", new PenNursery().exchanges(), 0L);
        PenNursery x = new PenNursery();
        for (int i = 0; i < 24; i++) {
            x.plant(3, 'a', 23 - i);
        }
        // Each pen goes up to the index 0: the depths of all indices.
        Edge.due("24 pens, each one sharper than those before", x.exchanges(), 2L + 2 * 4 + 3 * 8 + 4 * 9);
        Edge.thrown("one more", Nursery.STATE, () -> x.plant(3, 'a', 0));
        Edge.thrown("a program that fails", Nursery.UNSUPPORTED, () -> Nursery.run(x, "blunt 23+999;pick 0"));
        Edge.due("refused calls do not count", x.exchanges(), 70L);
        x.move(0, 1);
        x.undo();
        Edge.due("nor changes that are undone", x.exchanges(), 70L);
        Nursery.run(x, "order 3");
        Edge.due("those of a program count", x.exchanges(), 90L);
        x.recall('a');
        Edge.due("also when no pen is left", x.exchanges(), 90L);
    }

    private static void exchangesOfQueries() {
        Edge.promise(33, "Returns the number of exchanges so far, in all changes.");
        PenNursery x = new PenNursery();
        for (int i = 0; i < 24; i++) {
            x.plant(3, 'a', 23 - i);
        }
        x.penByRank(3, 23);
        x.penBySorting(3, 23);
        x.isConsistent();
        x.countBefore(3, 999);
        x.save();
        Edge.due("no change, no exchange", x.exchanges(), 70L);
        x.reorder(3);
        x.restore();
        Edge.due("restored", x.exchanges(), 70L);
    }

    // ---- promises 34 and 35

    private static void meanDateWithoutPens() {
        Edge.promise(34, "Throws `ArithmeticException` if there are no pens");
        Edge.refused("a new object", Nursery.ARITHMETIC, PenNursery::new, PenNursery::meanDate);
        Edge.Call[] ways = {x -> x.uproot(0), x -> x.pick(0), x -> x.recall('a'), x -> x.undo(),
            x -> Nursery.run(x, "uproot 0")};
        for (int i = 0; i < ways.length; i++) {
            Edge.Call way = ways[i];
            Edge.refused("the only pen is gone, " + i, Nursery.ARITHMETIC, () -> {
                PenNursery x = new PenNursery();
                x.addInk('a', 1);
                x.plant(0, 'a', 5);
                way.on(x);
                return x;
            }, PenNursery::meanDate);
        }
        Edge.due("one pen is enough", Nursery.planted(3, 7).meanDate(), 7.0);
    }

    private static void meanDates() {
        Edge.promise(34, "the sum of the dates divided by the number of pens, both converted to double");
        Edge.due("the least date", Nursery.planted(1, 0).meanDate(), 0.0);
        Edge.due("the greatest date", Nursery.planted(1, 999).meanDate(), 999.0);
        Edge.due("not rounded down", Nursery.planted(1, 998, 999).meanDate(), 998.5);
        Edge.due("a third", Nursery.planted(1, 0, 0, 1).meanDate(), 1.0 / 3.0);
        PenNursery x = new PenNursery();
        for (int i = 0; i < 24; i++) {
            x.plant(i % 4, 'a', 999);
        }
        Edge.due("24 of 999", x.meanDate(), 999.0);
        x.sharpen(23, 1);
        Edge.due("one day less", x.meanDate(), 23975.0 / 24.0);
        Edge.due("all nests", Edge.full().meanDate(), 270.0);
        Edge.due("24 pens in one nest", Edge.fullNest(3).meanDate(), 115.0);
        PenNursery gone = Nursery.planted(0, 1, 2, 900);
        gone.uproot(2);
        Edge.due("without the one that is gone", gone.meanDate(), 1.5);
        gone.move(1, 1);
        Edge.due("each one once, after a move", gone.meanDate(), 1.5);
        gone.merge(0, 2);
        Edge.due("each one once, after a merge", gone.meanDate(), 1.5);
    }

    private static void pickedShareWithoutPlants() {
        Edge.promise(35, "Throws `ArithmeticException` if no pen was planted");
        Edge.refused("a new object", Nursery.ARITHMETIC, PenNursery::new, PenNursery::pickedShare);
        Edge.refused("only other changes", Nursery.ARITHMETIC, () -> {
            PenNursery x = new PenNursery();
            x.addInk('a', 5);
            x.reorder(0);
            x.merge(0, 1);
            x.recall('a');
            return x;
        }, PenNursery::pickedShare);
        Edge.refused("the plant was undone", Nursery.ARITHMETIC, () -> {
            PenNursery x = Nursery.planted(0, 5);
            x.undo();
            return x;
        }, PenNursery::pickedShare);
        Edge.refused("the plant was refused", Nursery.ARITHMETIC, () -> {
            PenNursery x = new PenNursery();
            Check.answer(() -> x.plant(0, 'a', 1000));
            Check.answer(() -> Nursery.run(x, "plant 0a@1;pick 1"));
            return x;
        }, PenNursery::pickedShare);
        Edge.refused("the state before the plant was restored", Nursery.ARITHMETIC, () -> {
            PenNursery x = new PenNursery();
            x.save();
            x.plant(0, 'a', 5);
            x.restore();
            return x;
        }, PenNursery::pickedShare);
    }

    private static void pickedShares() {
        Edge.promise(35, "Returns the quotient of the number of pens that were picked and the number of pens that were"
                + " planted, both converted to float.");
        PenNursery x = Nursery.planted(0, 1, 2, 3);
        Edge.due("none of 3", x.pickedShare(), 0.0f);
        x.addInk('a', 3);
        x.pick(0);
        Edge.due("1 of 3", x.pickedShare(), 1.0f / 3.0f);
        x.pick(0);
        Edge.due("2 of 3", x.pickedShare(), 2.0f / 3.0f);
        x.uproot(2);
        Edge.due("no pen is left, but 3 were planted", x.pickedShare(), 2.0f / 3.0f);
        x.plant(0, 'a', 1);
        x.pick(0);
        Edge.due("3 of 4", x.pickedShare(), 0.75f);
        PenNursery y = Nursery.planted(0, 1);
        y.addInk('a', 1);
        y.pick(0);
        Edge.due("all of 1", y.pickedShare(), 1.0f);
        PenNursery uprooted = Nursery.planted(0, 1);
        uprooted.uproot(0);
        Edge.due("none of 1 that is gone", uprooted.pickedShare(), 0.0f);
    }

    // ---- promise 36

    private static void isConsistent() {
        Edge.promise(36, "Returns true if the invariants hold.");
        Edge.due("a new object", new PenNursery().isConsistent(), true);
        Edge.due("some pens", Edge.busy().isConsistent(), true);
        Edge.due("24 pens", Edge.full().isConsistent(), true);
        for (int nest = 0; nest < 4; nest++) {
            Edge.due("24 pens in one nest", Edge.fullNest(nest).isConsistent(), true);
        }
        Edge.changesNothing("isConsistent of a new object", PenNursery::new, PenNursery::isConsistent);
        Edge.changesNothing("isConsistent", Edge::busy, PenNursery::isConsistent);
        Edge.changesNothing("isConsistent of 24 pens", Edge::full, PenNursery::isConsistent);
    }

    private static void isConsistentAtTheEnds() {
        Edge.promise(36, "both ways of counting pens agree for the numbers 0, 100, 200 and so on up to 1000");
        for (int date : new int[] {0, 1, 99, 100, 101, 900, 998, 999}) {
            PenNursery x = new PenNursery();
            for (int i = 0; i < 24; i++) {
                x.plant(1, 'a', date);
            }
            Edge.due("24 equal dates of " + date, x.isConsistent(), true);
        }
        PenNursery y = new PenNursery();
        for (int i = 0; i < 24; i++) {
            y.plant(2, 'a', i % 2 == 0 ? 999 : 0);
        }
        Edge.due("dates of 0 and 999", y.isConsistent(), true);
    }
}
