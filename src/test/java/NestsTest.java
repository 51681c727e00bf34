/** Promises 9 to 11 and 21 to 28: changing nests, and their properties. */
public final class NestsTest {
    private NestsTest() {
    }

    public static void main(String[] args) {
        merging();
        mergingRefuses();
        reordering();
        recalling();
        recallingRefuses();
        sizesAndIndices();
        ranks();
        counts();
        levels();
        noSuchNest();
        Check.end();
    }

    private static void merging() {
        PenNursery x = new PenNursery();
        x.plant(0, 'a', 10);
        x.plant(0, 'b', 30);
        x.plant(1, 'c', 5);
        x.plant(1, 'd', 20);
        x.plant(1, 'e', 8);
        Check.due("merge", x.merge(1, 0), 5);
        Check.due("nest 0", Nursery.nest(x, 0), "2c5 4e8 0a10 1b30 3d20");
        Check.due("nest 1", Nursery.nest(x, 1), "");
        Check.due("exchanges", x.exchanges(), 3L);
        Check.due("merge an empty nest", x.merge(1, 0), 5);
        Check.due("merge into an empty nest", x.merge(0, 3), 5);
        Check.due("nest 3", Nursery.nest(x, 3), "2c5 4e8 0a10 1b30 3d20");
        Check.due("merge of two empty nests", x.merge(1, 2), 0);
        Check.due("every merge is a change", x.undo(), 7);
        PenNursery y = new PenNursery();
        for (int i = 0; i < 24; i++) {
            y.plant(i % 2, 'a', 99 - i);
        }
        Check.due("merge of 24 pens", y.merge(0, 1), 24);
        Check.due("consistent", y.isConsistent(), true);
    }

    private static void mergingRefuses() {
        PenNursery x = Nursery.planted(0, 3, 4);
        for (int nest : Nursery.NO_NESTS) {
            Check.thrown("merge from " + nest, Nursery.INDEX, () -> x.merge(nest, 0));
            Check.thrown("merge to " + nest, Nursery.INDEX, () -> x.merge(0, nest));
            Check.thrown("merge twice " + nest, Nursery.INDEX, () -> x.merge(nest, nest));
        }
        for (int i = 0; i < 4; i++) {
            int nest = i;
            Check.thrown("merge with itself", Nursery.ARGUMENT, () -> x.merge(nest, nest));
        }
        Check.due("nothing changed", Nursery.nest(x, 0), "0a3 1a4");
        Check.due("no change", x.undo(), 1);
    }

    private static void reordering() {
        PenNursery x = Nursery.planted(2, 9, 8, 7, 6, 5, 4);
        Check.due("nest", Nursery.nest(x, 2), "5a4 3a6 4a5 0a9 2a7 1a8");
        Check.due("exchanges", x.exchanges(), 8L);
        Check.due("reorder", x.reorder(2), 4);
        Check.due("nest", Nursery.nest(x, 2), "5a4 4a5 2a7 3a6 1a8 0a9");
        Check.due("exchanges", x.exchanges(), 12L);
        Check.due("reorder of an empty nest", x.reorder(0), 0);
        Check.due("that is a change", x.undo(), 7);
        PenNursery y = Nursery.planted(1, 1, 2, 3);
        Check.due("reorder without exchanges", y.reorder(1), 0);
        Check.due("nest", Nursery.nest(y, 1), "0a1 1a2 2a3");
        PenNursery z = Nursery.planted(3, 1, 2);
        z.sharpen(1, 2);
        Check.due("nest", Nursery.nest(z, 3), "1a0 0a1");
        Check.due("reorder of two", z.reorder(3), 1);
    }

    private static void recalling() {
        PenNursery x = new PenNursery();
        char[] feathers = {'b', 'a', 'b', 'a', 'a', 'b', 'b'};
        int[] dates = {1, 50, 2, 60, 51, 3, 4};
        for (int i = 0; i < feathers.length; i++) {
            x.plant(0, feathers[i], dates[i]);
        }
        x.plant(1, 'b', 7);
        x.plant(3, 'a', 8);
        Check.due("recall", x.recall('b'), 5);
        Check.due("nest 0", Nursery.nest(x, 0), "1a50 3a60 4a51");
        Check.due("nest 1", Nursery.nest(x, 1), "");
        Check.due("nest 3", Nursery.nest(x, 3), "8a8");
        Check.due("recall", x.recall('b'), 0);
        Check.due("a recall of none is a change", x.undo(), 7);
        Check.due("pens", x.pens(), 4);
        Check.due("recall all", x.recall('a'), 4);
        Check.due("pens", x.pens(), 0);
        Check.due("recall of no pens", x.recall('h'), 0);
        recallingOrders();
    }

    private static void recallingOrders() {
        PenNursery x = new PenNursery();
        x.plant(0, 'b', 1);
        x.plant(0, 'a', 30);
        x.plant(0, 'a', 10);
        x.plant(0, 'a', 40);
        x.plant(0, 'a', 35);
        x.plant(0, 'a', 20);
        Check.due("exchanges", x.exchanges(), 0L);
        Check.due("recall", x.recall('b'), 1);
        Check.due("nest", Nursery.nest(x, 0), "2a10 5a20 3a40 4a35 1a30");
        Check.due("exchanges", x.exchanges(), 2L);
    }

    private static void recallingRefuses() {
        PenNursery x = Nursery.planted(0, 3, 4);
        for (char feather : Nursery.NO_FEATHERS) {
            Check.thrown("recall " + (int) feather, Nursery.ARGUMENT, () -> x.recall(feather));
        }
        Check.due("no change", x.undo(), 1);
    }

    private static void sizesAndIndices() {
        PenNursery x = Nursery.planted(1, 5, 4, 3);
        Check.due("size", x.size(0), 0);
        Check.due("size", x.size(1), 3);
        Check.due("penAt", x.penAt(1, 0), 2);
        Check.due("penAt", x.penAt(1, 1), 0);
        Check.due("penAt", x.penAt(1, 2), 1);
        for (int index : new int[] {-1, 3, 24, Integer.MIN_VALUE, Integer.MAX_VALUE}) {
            Check.thrown("penAt index " + index, Nursery.ELEMENT, () -> x.penAt(1, index));
            Check.thrown("penByRank " + index, Nursery.ELEMENT, () -> x.penByRank(1, index));
            Check.thrown("penBySorting " + index, Nursery.ELEMENT, () -> x.penBySorting(1, index));
        }
        Check.thrown("penAt of an empty nest", Nursery.ELEMENT, () -> x.penAt(0, 0));
        Check.thrown("penByRank of an empty nest", Nursery.ELEMENT, () -> x.penByRank(0, 0));
        Check.thrown("penBySorting of an empty nest", Nursery.ELEMENT, () -> x.penBySorting(0, 0));
    }

    private static void ranks() {
        PenNursery x = Nursery.planted(3, 9, 7, 7, 8, 1, 7);
        int[] sorted = {4, 1, 2, 5, 3, 0};
        String before = Nursery.state(x);
        for (int rank = 0; rank < sorted.length; rank++) {
            Check.due("penByRank " + rank, x.penByRank(3, rank), sorted[rank]);
            Check.due("penBySorting " + rank, x.penBySorting(3, rank), sorted[rank]);
            Check.due("rankOf", x.rankOf(sorted[rank]), rank);
        }
        Check.due("a copy was used, also for the exchanges", Nursery.state(x), before);
    }

    private static void counts() {
        PenNursery x = Nursery.planted(0, 10, 20, 15, 30, 40, 16, 17);
        int[] dates = {Integer.MIN_VALUE, 0, 10, 11, 16, 17, 18, 41, Integer.MAX_VALUE};
        int[] counts = {0, 0, 0, 1, 2, 3, 4, 7, 7};
        int[] looks = {1, 1, 1, 3, 5, 5, 5, 7, 7};
        for (int i = 0; i < dates.length; i++) {
            Check.due("countBefore " + dates[i], x.countBefore(0, dates[i]), counts[i]);
            Check.due("countBeforeByScan " + dates[i], x.countBeforeByScan(0, dates[i]), counts[i]);
            Check.due("looksBefore " + dates[i], x.looksBefore(0, dates[i]), looks[i]);
        }
        Check.due("countBefore in an empty nest", x.countBefore(1, 999), 0);
        Check.due("countBeforeByScan in an empty nest", x.countBeforeByScan(1, 999), 0);
        Check.due("looksBefore in an empty nest", x.looksBefore(1, 999), 0);
        PenNursery y = new PenNursery();
        for (int i = 0; i < 24; i++) {
            y.plant(2, 'a', i);
        }
        Check.due("countBefore of all 24", y.countBefore(2, 24), 24);
        Check.due("looksBefore of all 24", y.looksBefore(2, 24), 24);
    }

    private static void levels() {
        PenNursery x = new PenNursery();
        Check.due("levels of an empty nest", x.levels(2), 0);
        int[] levels = {1, 2, 2, 3, 3, 3, 3, 4, 4, 4, 4, 4, 4, 4, 4, 5, 5, 5, 5, 5, 5, 5, 5, 5};
        for (int i = 0; i < levels.length; i++) {
            x.plant(2, 'a', 500 - i);
            Check.due("levels of " + (i + 1), x.levels(2), levels[i]);
        }
        Check.due("levels of another nest", x.levels(1), 0);
    }

    private static void noSuchNest() {
        PenNursery x = Nursery.planted(0, 1, 2);
        for (int nest : Nursery.NO_NESTS) {
            Check.thrown("reorder " + nest, Nursery.INDEX, () -> x.reorder(nest));
            Check.thrown("size " + nest, Nursery.INDEX, () -> x.size(nest));
            Check.thrown("penAt " + nest, Nursery.INDEX, () -> x.penAt(nest, -1));
            Check.thrown("penByRank " + nest, Nursery.INDEX, () -> x.penByRank(nest, -1));
            Check.thrown("penBySorting " + nest, Nursery.INDEX, () -> x.penBySorting(nest, -1));
            Check.thrown("countBefore " + nest, Nursery.INDEX, () -> x.countBefore(nest, 1));
            Check.thrown("countBeforeByScan " + nest, Nursery.INDEX, () -> x.countBeforeByScan(nest, 1));
            Check.thrown("looksBefore " + nest, Nursery.INDEX, () -> x.looksBefore(nest, 1));
            Check.thrown("levels " + nest, Nursery.INDEX, () -> x.levels(nest));
        }
        Check.due("no change", x.undo(), 1);
    }
}
