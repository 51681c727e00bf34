/** Boundary cases of the promises 1 to 4: a new object, plant, pick, addInk. */
public final class EdgesPlantingTest {
    private EdgesPlantingTest() {
    }

    public static void main(String[] args) {
        newObjectHasNoPens();
        newObjectHasNoInk();
        newObjectHasNothingElse();
        newObjectsAreApart();
        plantNests();
        plantFeathers();
        plantDates();
        plantReturns();
        plantWithTwentyFour();
        pickNests();
        pickOfAnEmptyNest();
        pickOfANestThatWasEmptied();
        pickWithoutInk();
        pickUsesOneDrop();
        pickTakesTheSharpest();
        pickIsNoPenAnyMore();
        inkFeathers();
        inkDrops();
        inkAboveTheLimit();
        Check.end();
    }

    // ---- promise 1

    private static void newObjectHasNoPens() {
        Edge.promise(1, "Creates a nursery without pens and ink.");
        PenNursery x = new PenNursery();
        Edge.due("pens", x.pens(), 0);
        for (int nest = 0; nest < 4; nest++) {
            int empty = nest;
            Edge.due("size", x.size(nest), 0);
            Edge.due("levels", x.levels(nest), 0);
            Edge.due("countBefore", x.countBefore(nest, Edge.GREATEST), 0);
            Edge.due("countBeforeByScan", x.countBeforeByScan(nest, Edge.GREATEST), 0);
            Edge.due("looksBefore", x.looksBefore(nest, Edge.GREATEST), 0);
            Edge.due("writeNest", x.writeNest(nest), 0);
            Edge.thrown("penAt", Nursery.ELEMENT, () -> x.penAt(empty, 0));
            Edge.thrown("penByRank", Nursery.ELEMENT, () -> x.penByRank(empty, 0));
            Edge.thrown("penBySorting", Nursery.ELEMENT, () -> x.penBySorting(empty, 0));
            Edge.thrown("pick", Nursery.ELEMENT, () -> x.pick(empty));
        }
        for (int number : new int[] {Edge.LEAST, -1, 0, 1, 23, Edge.GREATEST}) {
            Edge.due("exists " + number, x.exists(number), false);
            Edge.thrown("date " + number, Nursery.ELEMENT, () -> x.date(number));
            Edge.thrown("uproot " + number, Nursery.ELEMENT, () -> x.uproot(number));
        }
    }

    private static void newObjectHasNoInk() {
        Edge.promise(1, "Creates a nursery without pens and ink.");
        PenNursery x = new PenNursery();
        for (char feather = 'a'; feather <= 'h'; feather++) {
            Edge.due("ink " + feather, x.ink(feather), 0);
            Edge.due("pensWith " + feather, x.pensWith(feather), 0);
            Edge.due("recall " + feather, x.recall(feather), 0);
        }
        Edge.due("writeInk", x.writeInk(), 0);
    }

    private static void newObjectHasNothingElse() {
        Edge.promise(1, "Creates a nursery without pens and ink.");
        PenNursery x = new PenNursery();
        Edge.due("picked", x.picked(), 0);
        Edge.due("exchanges", x.exchanges(), 0L);
        Edge.due("isConsistent", x.isConsistent(), true);
        Edge.thrown("commonFeather", Nursery.ELEMENT, x::commonFeather);
        Edge.thrown("meanDate", Nursery.ARITHMETIC, x::meanDate);
        Edge.thrown("pickedShare", Nursery.ARITHMETIC, x::pickedShare);
        Edge.thrown("charAt", Nursery.INDEX, () -> x.charAt(0));
        Edge.thrown("errorPosition", Nursery.ELEMENT, x::errorPosition);
        Edge.thrown("failedCommand", Nursery.ELEMENT, x::failedCommand);
        Edge.thrown("undo", Nursery.STATE, x::undo);
        Edge.thrown("restore", Nursery.STATE, x::restore);
        Edge.due("type", x.type('x'), 1);
    }

    private static void newObjectsAreApart() {
        Edge.promise(1, "Creates a nursery without pens and ink.");
        String before = Nursery.state(new PenNursery());
        PenNursery used = Edge.busy();
        PenNursery x = new PenNursery();
        Edge.due("an object that is made later", Nursery.state(x), before);
        x.plant(0, 'g', 3);
        Edge.due("the older one stays", Nursery.state(used), Nursery.state(Edge.busy()));
    }

    // ---- promise 2

    private static void plantNests() {
        Edge.promise(2, "Throws `IndexOutOfBoundsException` if there is no such nest");
        PenNursery x = new PenNursery();
        Edge.due("nest 0", x.plant(0, 'a', 1), 0);
        Edge.due("nest 3", x.plant(3, 'a', 1), 1);
        Edge.refusesNumbers("nest", Edge.NO_NESTS, Nursery.INDEX, (y, nest) -> y.plant(nest, 'a', 1));
    }

    private static void plantFeathers() {
        Edge.promise(2, "Throws `IllegalArgumentException` if the character is not a feather");
        PenNursery x = new PenNursery();
        Edge.due("a", x.plant(0, 'a', 1), 0);
        Edge.due("h", x.plant(0, 'h', 1), 1);
        Edge.due("the feather", x.feather(0), 'a');
        Edge.due("the feather", x.feather(1), 'h');
        Edge.refusesFeathers("feather", (y, feather) -> y.plant(0, feather, 1));
    }

    private static void plantDates() {
        Edge.promise(2, "or the date is out of range");
        PenNursery x = new PenNursery();
        Edge.due("date 0", x.plant(0, 'a', 0), 0);
        Edge.due("date 999", x.plant(0, 'a', 999), 1);
        Edge.due("the date", x.date(0), 0);
        Edge.due("the date", x.date(1), 999);
        Edge.refusesNumbers("date", Edge.NO_DATES, Nursery.ARGUMENT, (y, date) -> y.plant(0, 'a', date));
    }

    private static void plantReturns() {
        Edge.promise(2, "Returns the number of the pen.");
        PenNursery x = new PenNursery();
        for (int i = 0; i < 24; i++) {
            Edge.due("plant " + i, x.plant(2, 'h', 999 - i), i);
            Edge.due("the sharpest one, at the index 0", x.penAt(2, 0), i);
        }
    }

    private static void plantWithTwentyFour() {
        Edge.promise(2, "Throws `IllegalStateException` if there are 24 pens");
        PenNursery x = Edge.full();
        x.uproot(23);
        Edge.due("with 23 pens", x.plant(0, 'a', 1), 24);
        Edge.thrown("with 24 pens", Nursery.STATE, () -> x.plant(0, 'a', 1));
        Edge.refused("with 24 pens", Nursery.STATE, Edge::full, y -> y.plant(0, 'a', 1));
        Edge.refused("with 24 pens in the nest", Nursery.STATE, () -> Edge.fullNest(3), y -> y.plant(3, 'h', 999));
        Edge.refused("with 24 pens in another nest", Nursery.STATE, () -> Edge.fullNest(3), y -> y.plant(0, 'a', 0));
    }

    // ---- promise 3

    private static void pickNests() {
        Edge.promise(3, "Throws `IndexOutOfBoundsException` if there is no such nest");
        PenNursery x = Edge.full();
        Edge.due("nest 0", x.pick(0), 20);
        Edge.due("nest 3", x.pick(3), 23);
        Edge.refusesNumbers("nest", Edge.NO_NESTS, Nursery.INDEX, (y, nest) -> y.pick(nest));
    }

    private static void pickOfAnEmptyNest() {
        Edge.promise(3, "Throws `NoSuchElementException` if the nest is empty");
        Edge.refused("nest 3", Nursery.ELEMENT, Edge::busy, x -> x.pick(3));
        for (int i = 0; i < 4; i++) {
            int nest = i;
            Edge.refused("nest of a new object", Nursery.ELEMENT, PenNursery::new, x -> x.pick(nest));
        }
        PenNursery x = Nursery.planted(1, 5);
        x.addInk('a', 1);
        Edge.due("a nest with one pen", x.pick(1), 0);
    }

    private static void pickOfANestThatWasEmptied() {
        Edge.promise(3, "Throws `NoSuchElementException` if the nest is empty");
        Edge.Call[] emptying = {x -> x.pick(0), x -> x.uproot(0), x -> x.move(0, 1), x -> x.merge(0, 1),
            x -> x.recall('a'), x -> x.undo(), x -> x.restore(), x -> Nursery.run(x, "uproot 0")};
        for (int i = 0; i < emptying.length; i++) {
            Edge.Call call = emptying[i];
            Edge.refused("a nest that was emptied, " + i, Nursery.ELEMENT, () -> {
                PenNursery x = new PenNursery();
                x.addInk('a', 5);
                x.save();
                x.plant(0, 'a', 5);
                call.on(x);
                return x;
            }, x -> x.pick(0));
        }
    }

    private static void pickWithoutInk() {
        Edge.promise(3, "Throws `UnsupportedOperationException` if there is no ink for the feather");
        Edge.refused("no ink at all", Nursery.UNSUPPORTED, () -> Nursery.planted(2, 5), x -> x.pick(2));
        Edge.refused("d has no ink, others have", Nursery.UNSUPPORTED, Edge::busy, x -> x.pick(2));
        Edge.refused("the ink is used up", Nursery.UNSUPPORTED, () -> {
            PenNursery x = Nursery.planted(1, 5, 6, 7);
            x.addInk('a', 2);
            x.pick(1);
            x.pick(1);
            return x;
        }, x -> x.pick(1));
        Edge.refused("only the second pen has ink", Nursery.UNSUPPORTED, () -> {
            PenNursery x = new PenNursery();
            x.plant(0, 'a', 5);
            x.plant(0, 'b', 6);
            x.addInk('b', 999);
            return x;
        }, x -> x.pick(0));
        PenNursery x = Nursery.planted(2, 5);
        x.addInk('a', 1);
        Edge.due("one drop is enough", x.pick(2), 0);
    }

    private static void pickUsesOneDrop() {
        Edge.promise(3, "This uses one drop of ink for its feather.");
        PenNursery x = new PenNursery();
        x.plant(0, 'a', 1);
        x.plant(0, 'h', 2);
        x.addInk('a', 1);
        x.addInk('h', 999);
        x.pick(0);
        Edge.due("the last drop", x.ink('a'), 0);
        Edge.due("the other stock", x.ink('h'), 999);
        x.pick(0);
        Edge.due("the first drop", x.ink('h'), 998);
        Edge.due("the other stock", x.ink('a'), 0);
    }

    private static void pickTakesTheSharpest() {
        Edge.promise(3, "Picks the sharpest pen of a nest");
        PenNursery x = Nursery.planted(0, 999, 7, 0, 7, 999, 0);
        x.addInk('a', 6);
        int[] order = {2, 5, 1, 3, 0, 4};
        for (int pen : order) {
            Edge.due("pick", x.pick(0), pen);
            Edge.due("isConsistent", x.isConsistent(), true);
        }
        Edge.thrown("pick of none", Nursery.ELEMENT, () -> x.pick(0));
        PenNursery full = Edge.fullNest(3);
        full.addInk('a', 24);
        for (int i = 0; i < 24; i++) {
            Edge.due("pick of 24", full.pick(3), i);
        }
        Edge.thrown("pick of none", Nursery.ELEMENT, () -> full.pick(3));
        Edge.due("picked", full.picked(), 24);
    }

    private static void pickIsNoPenAnyMore() {
        Edge.promise(3, "which is taken out and is no pen any more");
        PenNursery x = Nursery.planted(0, 5, 6);
        x.addInk('a', 1);
        Edge.due("pick", x.pick(0), 0);
        Edge.due("exists", x.exists(0), false);
        Edge.thrown("nestOf", Nursery.ELEMENT, () -> x.nestOf(0));
        Edge.due("size", x.size(0), 1);
        Edge.due("pens", x.pens(), 1);
        Edge.due("pensWith", x.pensWith('a'), 1);
    }

    // ---- promise 4

    private static void inkFeathers() {
        Edge.promise(4, "Throws `IllegalArgumentException` if the character is not a feather");
        PenNursery x = new PenNursery();
        Edge.due("a", x.addInk('a', 1), 1);
        Edge.due("h", x.addInk('h', 1), 1);
        Edge.refusesFeathers("feather", (y, feather) -> y.addInk(feather, 1));
    }

    private static void inkDrops() {
        Edge.promise(4, "or the number of drops is out of range");
        PenNursery x = new PenNursery();
        Edge.due("1 drop", x.addInk('a', 1), 1);
        Edge.due("999 drops", x.addInk('b', 999), 999);
        Edge.refusesNumbers("drops", Edge.NO_AMOUNTS, Nursery.ARGUMENT, (y, drops) -> y.addInk('a', drops));
        Edge.refusesNumbers("drops into a full stock", Edge.NO_AMOUNTS, Nursery.ARGUMENT,
                (y, drops) -> y.addInk('h', drops));
        Edge.refused("no feather, no drops", Nursery.ARGUMENT, Edge::busy, y -> y.addInk('i', 0));
    }

    private static void inkAboveTheLimit() {
        Edge.promise(4, "Drops above 999 are lost.");
        int[][] rows = {{1, 997, 998}, {1, 998, 999}, {1, 999, 999}, {2, 997, 999}, {2, 998, 999}, {998, 1, 999},
            {998, 2, 999}, {999, 1, 999}, {999, 999, 999}, {500, 499, 999}, {500, 500, 999}};
        for (int[] row : rows) {
            PenNursery x = new PenNursery();
            Edge.due("addInk " + row[0], x.addInk('h', row[0]), row[0]);
            Edge.due("and " + row[1], x.addInk('h', row[1]), row[2]);
            Edge.due("ink", x.ink('h'), row[2]);
            Edge.due("the stock beside it", x.ink('g'), 0);
        }
        PenNursery y = Nursery.planted(0, 5);
        y.addInk('a', 999);
        y.addInk('a', 999);
        y.pick(0);
        Edge.due("what is lost does not come back", y.ink('a'), 998);
    }
}
