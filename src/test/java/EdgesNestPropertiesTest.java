/** Boundary cases of the promises 21 to 28: properties of nests. */
public final class EdgesNestPropertiesTest {
    /** No indices and no ranks of the nest 0 of busy(), which has 3 pens. */
    private static final int[] NO_INDICES = {Edge.LEAST, -1, 3, 4, 23, 24, Edge.GREATEST};

    private interface RankCall {
        Object on(PenNursery nursery, int nest, int rank);
    }

    private EdgesNestPropertiesTest() {
    }

    public static void main(String[] args) {
        size();
        penAt();
        penAtNoIndex();
        penByRank();
        penBySorting();
        bothRanks();
        countBefore();
        countBeforeByScan();
        bothCounts();
        looksBefore();
        looks();
        levels();
        levelsOfAllSizes();
        Check.end();
    }

    private static void refusesNoNests(Edge.NumberCall call) {
        Edge.refusesNumbers("nest", Edge.NO_NESTS, Nursery.INDEX, call);
    }

    /** What penAt, penByRank and penBySorting say of an index or a rank that does not exist. */
    private static void refusesNoIndices(RankCall call) {
        Edge.refusesNumbers("of three", NO_INDICES, Nursery.ELEMENT, (x, index) -> call.on(x, 0, index));
        Edge.refusesNumbers("of one", new int[] {Edge.LEAST, -1, 1, 24, Edge.GREATEST}, Nursery.ELEMENT,
                (x, index) -> call.on(x, 1, index));
        Edge.refusesNumbers("of an empty nest", new int[] {Edge.LEAST, -1, 0, 1, Edge.GREATEST}, Nursery.ELEMENT,
                (x, index) -> call.on(x, 3, index));
        for (int index : new int[] {Edge.LEAST, -1, 24, 25, Edge.GREATEST}) {
            Edge.refused("of 24 " + index, Nursery.ELEMENT, () -> Edge.fullNest(2), x -> call.on(x, 2, index));
        }
        Edge.refused("of one that was uprooted", Nursery.ELEMENT, () -> {
            PenNursery x = Nursery.planted(2, 5, 6, 7);
            x.uproot(2);
            return x;
        }, x -> call.on(x, 2, 2));
        for (int i = 0; i < 4; i++) {
            int nest = i;
            Edge.refused("of a new object", Nursery.ELEMENT, PenNursery::new, x -> call.on(x, nest, 0));
        }
    }

    // ---- promises 21 and 22

    private static void size() {
        Edge.promise(21, "Throws `IndexOutOfBoundsException` if there is no such nest");
        PenNursery x = Edge.full();
        Edge.due("nest 0", x.size(0), 6);
        Edge.due("nest 3", x.size(3), 6);
        refusesNoNests((y, nest) -> y.size(nest));
        Edge.promise(21, "Returns the number of pens.");
        for (int nest = 0; nest < 4; nest++) {
            Edge.due("an empty nest", new PenNursery().size(nest), 0);
            Edge.due("a full nest", Edge.fullNest(nest).size(nest), 24);
            Edge.due("the nest beside it", Edge.fullNest(nest).size((nest + 1) % 4), 0);
        }
    }

    private static void penAt() {
        Edge.promise(22, "Throws `IndexOutOfBoundsException` if there is no such nest");
        PenNursery x = Edge.full();
        Edge.due("nest 0", x.penAt(0, 0), 20);
        Edge.due("nest 3", x.penAt(3, 0), 23);
        refusesNoNests((y, nest) -> y.penAt(nest, 0));
        refusesNoNests((y, nest) -> y.penAt(nest, Edge.LEAST));
        refusesNoNests((y, nest) -> y.penAt(nest, Edge.GREATEST));
    }

    private static void penAtNoIndex() {
        Edge.promise(22, "Throws `NoSuchElementException` if there is no such index");
        PenNursery x = Edge.busy();
        Edge.due("the first index of three", x.penAt(0, 0), 2);
        Edge.due("the last index of three", x.penAt(0, 2), 3);
        Edge.due("the only index", x.penAt(1, 0), 4);
        Edge.due("the first index of 24", Edge.fullNest(2).penAt(2, 0), 0);
        Edge.due("the last index of 24", Edge.fullNest(2).penAt(2, 23), 23);
        refusesNoIndices((y, nest, index) -> y.penAt(nest, index));
    }

    // ---- promises 23 and 24

    private static void penByRank() {
        Edge.promise(23, "Throws `IndexOutOfBoundsException` if there is no such nest");
        Edge.due("nest 0", Edge.full().penByRank(0, 5), 0);
        Edge.due("nest 3", Edge.full().penByRank(3, 5), 3);
        refusesNoNests((x, nest) -> x.penByRank(nest, 0));
        refusesNoNests((x, nest) -> x.penByRank(nest, 24));
        Edge.promise(23, "Throws `NoSuchElementException` if there is no such rank");
        Edge.due("the first rank of three", Edge.busy().penByRank(0, 0), 2);
        Edge.due("the last rank of three", Edge.busy().penByRank(0, 2), 1);
        refusesNoIndices((x, nest, rank) -> x.penByRank(nest, rank));
        Edge.promise(23, "by taking pens out of a copy of the heap");
        Edge.changesNothing("penByRank", Edge::busy, x -> x.penByRank(0, 2));
        Edge.changesNothing("penByRank of 24", () -> Edge.fullNest(0), x -> x.penByRank(0, 23));
    }

    private static void penBySorting() {
        Edge.promise(24, "Throws `IndexOutOfBoundsException` if there is no such nest");
        Edge.due("nest 0", Edge.full().penBySorting(0, 5), 0);
        Edge.due("nest 3", Edge.full().penBySorting(3, 5), 3);
        refusesNoNests((x, nest) -> x.penBySorting(nest, 0));
        refusesNoNests((x, nest) -> x.penBySorting(nest, 24));
        Edge.promise(24, "Throws `NoSuchElementException` if there is no such rank");
        Edge.due("the first rank of three", Edge.busy().penBySorting(0, 0), 2);
        Edge.due("the last rank of three", Edge.busy().penBySorting(0, 2), 1);
        refusesNoIndices((x, nest, rank) -> x.penBySorting(nest, rank));
        Edge.promise(24, "Returns the same pen, by sorting the pens of the nest.");
        Edge.changesNothing("penBySorting", Edge::busy, x -> x.penBySorting(0, 2));
        Edge.changesNothing("penBySorting of 24", () -> Edge.fullNest(0), x -> x.penBySorting(0, 23));
    }

    private static void bothRanks() {
        Edge.promise(23, "Returns the pen at a rank when the pens of a nest are sorted with the sharpest one first");
        PenNursery equal = new PenNursery();
        PenNursery reversed = new PenNursery();
        for (int i = 0; i < 24; i++) {
            equal.plant(3, 'a', 0);
            reversed.plant(0, 'a', 999 - i);
        }
        for (int rank = 0; rank < 24; rank++) {
            Edge.due("equal dates", equal.penByRank(3, rank), rank);
            Edge.due("equal dates, by sorting", equal.penBySorting(3, rank), rank);
            Edge.due("the last one is the sharpest", reversed.penByRank(0, rank), 23 - rank);
            Edge.due("the last one is the sharpest, by sorting", reversed.penBySorting(0, rank), 23 - rank);
        }
        Edge.due("the only pen", Nursery.planted(1, 999).penByRank(1, 0), 0);
        Edge.due("the only pen, by sorting", Nursery.planted(1, 999).penBySorting(1, 0), 0);
    }

    // ---- promises 25 and 26

    private static void countBefore() {
        Edge.promise(25, "Throws `IndexOutOfBoundsException` if there is no such nest");
        Edge.due("nest 0", Edge.full().countBefore(0, 1000), 6);
        Edge.due("nest 3", Edge.full().countBefore(3, 1000), 6);
        for (int date : new int[] {Edge.LEAST, 0, Edge.GREATEST}) {
            refusesNoNests((x, nest) -> x.countBefore(nest, date));
        }
        Edge.changesNothing("countBefore", Edge::busy, x -> x.countBefore(0, 16));
    }

    private static void countBeforeByScan() {
        Edge.promise(26, "Throws `IndexOutOfBoundsException` if there is no such nest");
        Edge.due("nest 0", Edge.full().countBeforeByScan(0, 1000), 6);
        Edge.due("nest 3", Edge.full().countBeforeByScan(3, 1000), 6);
        for (int date : new int[] {Edge.LEAST, 0, Edge.GREATEST}) {
            refusesNoNests((x, nest) -> x.countBeforeByScan(nest, date));
        }
        Edge.changesNothing("countBeforeByScan", Edge::busy, x -> x.countBeforeByScan(0, 16));
    }

    private static void counts(PenNursery nursery, int nest, int date, int count) {
        Edge.promise(25, "Returns the number of pens of a nest whose dates are less than a number");
        Edge.due("countBefore " + date, nursery.countBefore(nest, date), count);
        Edge.promise(26, "Returns the same number, by looking at all pens.");
        Edge.due("countBeforeByScan " + date, nursery.countBeforeByScan(nest, date), count);
    }

    private static void bothCounts() {
        PenNursery x = Nursery.planted(1, 0, 999, 0, 500, 999);
        int[][] rows = {{Edge.LEAST, 0}, {-1, 0}, {0, 0}, {1, 2}, {499, 2}, {500, 2}, {501, 3}, {998, 3}, {999, 3},
            {1000, 5}, {1001, 5}, {Edge.GREATEST, 5}};
        for (int[] row : rows) {
            counts(x, 1, row[0], row[1]);
            counts(x, 0, row[0], 0);
        }
        PenNursery full = Edge.fullNest(3);
        for (int i = 0; i < 24; i++) {
            counts(full, 3, 10 * i, i);
            counts(full, 3, 10 * i + 1, i + 1);
        }
        for (int nest = 0; nest < 3; nest++) {
            counts(full, nest, Edge.GREATEST, 0);
        }
    }

    // ---- promise 27

    private static void looksBefore() {
        Edge.promise(27, "Throws `IndexOutOfBoundsException` if there is no such nest");
        Edge.due("nest 0", Edge.full().looksBefore(0, 1000), 6);
        Edge.due("nest 3", Edge.full().looksBefore(3, 1000), 6);
        for (int date : new int[] {Edge.LEAST, 0, Edge.GREATEST}) {
            refusesNoNests((x, nest) -> x.looksBefore(nest, date));
        }
        Edge.changesNothing("looksBefore", Edge::busy, x -> x.looksBefore(0, 16));
    }

    private static void looks() {
        Edge.promise(27, "those whose dates are not less included");
        for (int date : new int[] {Edge.LEAST, -1, 0, 999, Edge.GREATEST}) {
            Edge.due("an empty nest", new PenNursery().looksBefore(2, date), 0);
        }
        PenNursery one = Nursery.planted(2, 5);
        for (int date : new int[] {Edge.LEAST, 0, 5, 6, Edge.GREATEST}) {
            Edge.due("the only pen", one.looksBefore(2, date), 1);
        }
        PenNursery x = Nursery.planted(2, 10, 20, 15, 30);
        int[][] rows = {{Edge.LEAST, 1}, {-1, 1}, {0, 1}, {10, 1}, {11, 3}, {15, 3}, {16, 3}, {20, 3}, {21, 4}, {30, 4},
            {31, 4}, {Edge.GREATEST, 4}};
        for (int[] row : rows) {
            Edge.due("looks before " + row[0], x.looksBefore(2, row[0]), row[1]);
        }
        PenNursery full = Edge.fullNest(0);
        Edge.due("24 pens, none is less", full.looksBefore(0, 0), 1);
        Edge.due("24 pens, one is less", full.looksBefore(0, 10), 3);
        Edge.due("24 pens, 11 are less", full.looksBefore(0, 110), 23);
        Edge.due("24 pens, 12 are less", full.looksBefore(0, 120), 24);
        Edge.due("24 pens, all are less", full.looksBefore(0, 231), 24);
        PenNursery equal = Nursery.planted(0, 7, 7, 7, 7);
        Edge.due("equal dates, none is less", equal.looksBefore(0, 7), 1);
        Edge.due("equal dates, all are less", equal.looksBefore(0, 8), 4);
    }

    // ---- promise 28

    private static void levels() {
        Edge.promise(28, "Throws `IndexOutOfBoundsException` if there is no such nest");
        Edge.due("nest 0", Edge.full().levels(0), 3);
        Edge.due("nest 3", Edge.full().levels(3), 3);
        refusesNoNests((x, nest) -> x.levels(nest));
    }

    private static void levelsOfAllSizes() {
        Edge.promise(28, "Returns the number of levels, 0 for an empty nest.");
        int[] levels = {0, 1, 2, 2, 3, 3, 3, 3, 4, 4, 4, 4, 4, 4, 4, 4, 5, 5, 5, 5, 5, 5, 5, 5, 5};
        for (int nest = 0; nest < 4; nest++) {
            PenNursery x = new PenNursery();
            for (int size = 0; size < 24; size++) {
                Edge.due("levels of " + size, x.levels(nest), levels[size]);
                x.plant(nest, 'a', 5);
            }
            Edge.due("levels of 24", x.levels(nest), levels[24]);
            for (int size = 23; size >= 0; size--) {
                x.uproot(size);
                Edge.due("levels of " + size, x.levels(nest), levels[size]);
            }
        }
    }
}
