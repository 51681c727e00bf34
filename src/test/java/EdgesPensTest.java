/** Boundary cases of the promises 5 to 8: sharpen, blunt, uproot, move. */
public final class EdgesPensTest {
    private EdgesPensTest() {
    }

    public static void main(String[] args) {
        sharpenNoPen();
        sharpenDays();
        sharpenStopsAtZero();
        sharpenSiftsUp();
        sharpenReturns();
        bluntNoPen();
        bluntDays();
        bluntStopsAtTheGreatestDate();
        bluntSiftsDown();
        bluntReturns();
        uprootNoPen();
        uprootTakesOut();
        uprootIsNoPenAnyMore();
        uprootReturns();
        moveNoPen();
        moveNests();
        moveToItsOwnNest();
        moveToAndFromTheEnds();
        moveReturns();
        Check.end();
    }

    /** A pen that is gone, each time in another way, is no pen for the call. */
    private static void refusesPensThatAreGone(Edge.NumberCall call) {
        Edge.Call[] ways = {x -> x.uproot(3), x -> x.pick(0), x -> x.recall('c'), x -> x.undo(),
            x -> Nursery.run(x, "uproot 3"), x -> x.restore()};
        for (int i = 0; i < ways.length; i++) {
            Edge.Call way = ways[i];
            Edge.refused("a pen that is gone, " + i, Nursery.ELEMENT, () -> {
                PenNursery x = new PenNursery();
                x.addInk('c', 1);
                x.plant(0, 'a', 5);
                x.plant(0, 'a', 6);
                x.plant(1, 'a', 6);
                x.save();
                x.plant(0, 'c', 1);
                way.on(x);
                return x;
            }, x -> call.on(x, 3));
        }
    }

    // ---- promise 5

    private static void sharpenNoPen() {
        Edge.promise(5, "Throws `NoSuchElementException` if there is no such pen");
        Edge.due("the first pen", Nursery.planted(3, 5, 6).sharpen(0, 1), 0);
        Edge.due("the last pen", Nursery.planted(3, 5, 6).sharpen(1, 1), 1);
        Edge.refusesNumbers("pen", Edge.NO_PENS, Nursery.ELEMENT, (x, pen) -> x.sharpen(pen, 1));
        Edge.refused("a new object", Nursery.ELEMENT, PenNursery::new, x -> x.sharpen(0, 1));
        refusesPensThatAreGone((x, pen) -> x.sharpen(pen, 1));
    }

    private static void sharpenDays() {
        Edge.promise(5, "Throws `IllegalArgumentException` if the number of days is out of range");
        PenNursery x = Nursery.planted(0, 999, 999);
        x.sharpen(0, 1);
        Edge.due("1 day", x.date(0), 998);
        x.sharpen(1, 999);
        Edge.due("999 days", x.date(1), 0);
        Edge.refusesNumbers("days", Edge.NO_AMOUNTS, Nursery.ARGUMENT, (y, days) -> y.sharpen(1, days));
        Edge.refusesNumbers("days at a date of 0", Edge.NO_AMOUNTS, Nursery.ARGUMENT, (y, days) -> y.sharpen(6, days));
        Edge.refusesNumbers("days at a date of 999", Edge.NO_AMOUNTS, Nursery.ARGUMENT,
                (y, days) -> y.sharpen(5, days));
    }

    private static void sharpenStopsAtZero() {
        Edge.promise(5, "Makes the date of a pen smaller, but not smaller than 0");
        int[][] rows = {{0, 1, 0}, {0, 999, 0}, {1, 1, 0}, {1, 2, 0}, {2, 1, 1}, {998, 999, 0}, {999, 998, 1},
            {999, 999, 0}, {500, 499, 1}, {500, 500, 0}, {500, 501, 0}};
        for (int[] row : rows) {
            PenNursery x = Nursery.planted(0, row[0]);
            Edge.due("sharpen " + row[0] + " by " + row[1], x.sharpen(0, row[1]), 0);
            Edge.due("date", x.date(0), row[2]);
        }
        PenNursery y = Nursery.planted(0, 0, 5);
        Edge.due("0 is not sharper than 0 of a smaller number", y.sharpen(1, 999), 1);
        PenNursery z = Nursery.planted(0, 5, 0);
        Edge.due("0 is sharper than 0 of a greater number", z.sharpen(0, 999), 0);
        Edge.due("nest", Nursery.nest(z, 0), "0a0 1a0");
    }

    private static void sharpenSiftsUp() {
        Edge.promise(5, "and sifts the pen up");
        PenNursery x = Nursery.planted(0, 10, 20, 30);
        Edge.due("above the parent by one", x.sharpen(1, 9), 1);
        Edge.due("no exchange", x.exchanges(), 0L);
        Edge.due("as the parent, and a greater number", x.sharpen(1, 1), 1);
        Edge.due("no exchange", x.exchanges(), 0L);
        Edge.due("below the parent by one", x.sharpen(1, 1), 0);
        Edge.due("one exchange", x.exchanges(), 1L);
        Edge.due("as the parent, and a smaller number", x.sharpen(0, 1), 0);
        Edge.due("two exchanges", x.exchanges(), 2L);
    }

    private static void sharpenReturns() {
        Edge.promise(5, "Returns the index of the pen afterwards.");
        for (int i = 0; i < 24; i++) {
            PenNursery x = Edge.fullNest(2);
            Edge.due("by 1, the pen " + i, x.sharpen(i, 1), i);
            Edge.due("its index", x.indexOf(i), i);
            Edge.due("by 999, the pen " + i, x.sharpen(i, 999), i == 0 ? 0 : firstBelowTheTop(i));
        }
    }

    /** Where a way up from an index ends when the pen at the index 0 stays: its date is 0 and its number 0. */
    private static int firstBelowTheTop(int index) {
        int at = index;
        while (at > 2) {
            at = (at - 1) / 2;
        }
        return at;
    }

    // ---- promise 6

    private static void bluntNoPen() {
        Edge.promise(6, "Throws `NoSuchElementException` if there is no such pen");
        Edge.due("the first pen", Nursery.planted(3, 5, 9).blunt(0, 1), 0);
        Edge.due("the last pen", Nursery.planted(3, 5, 9).blunt(1, 1), 1);
        Edge.refusesNumbers("pen", Edge.NO_PENS, Nursery.ELEMENT, (x, pen) -> x.blunt(pen, 1));
        Edge.refused("a new object", Nursery.ELEMENT, PenNursery::new, x -> x.blunt(0, 1));
        refusesPensThatAreGone((x, pen) -> x.blunt(pen, 1));
    }

    private static void bluntDays() {
        Edge.promise(6, "Throws `IllegalArgumentException` if the number of days is out of range");
        PenNursery x = Nursery.planted(0, 0, 0);
        x.blunt(0, 1);
        Edge.due("1 day", x.date(0), 1);
        x.blunt(1, 999);
        Edge.due("999 days", x.date(1), 999);
        Edge.refusesNumbers("days", Edge.NO_AMOUNTS, Nursery.ARGUMENT, (y, days) -> y.blunt(1, days));
        Edge.refusesNumbers("days at a date of 0", Edge.NO_AMOUNTS, Nursery.ARGUMENT, (y, days) -> y.blunt(6, days));
        Edge.refusesNumbers("days at a date of 999", Edge.NO_AMOUNTS, Nursery.ARGUMENT, (y, days) -> y.blunt(5, days));
    }

    private static void bluntStopsAtTheGreatestDate() {
        Edge.promise(6, "Makes the date of a pen greater, but not greater than 999");
        int[][] rows = {{0, 1, 1}, {0, 998, 998}, {0, 999, 999}, {1, 998, 999}, {1, 999, 999}, {997, 1, 998},
            {998, 1, 999}, {998, 2, 999}, {999, 1, 999}, {999, 999, 999}, {500, 499, 999}, {500, 500, 999}};
        for (int[] row : rows) {
            PenNursery x = Nursery.planted(0, row[0]);
            Edge.due("blunt " + row[0] + " by " + row[1], x.blunt(0, row[1]), 0);
            Edge.due("date", x.date(0), row[2]);
        }
        PenNursery y = Nursery.planted(0, 5, 999);
        Edge.due("999 is sharper than 999 of a greater number", y.blunt(0, 999), 0);
        PenNursery z = Nursery.planted(0, 999, 5);
        Edge.due("999 is not sharper than 999 of a smaller number", z.blunt(1, 999), 1);
        Edge.due("nest", Nursery.nest(z, 0), "0a999 1a999");
    }

    private static void bluntSiftsDown() {
        Edge.promise(6, "and sifts the pen down");
        PenNursery x = Nursery.planted(0, 10, 20, 30);
        Edge.due("below the child by one", x.blunt(0, 9), 0);
        Edge.due("as the child, and a smaller number", x.blunt(0, 1), 0);
        Edge.due("no exchange", x.exchanges(), 0L);
        Edge.due("above the child by one", x.blunt(0, 1), 1);
        Edge.due("one exchange", x.exchanges(), 1L);
        Edge.due("as the child, and a greater number", x.blunt(1, 1), 1);
        Edge.due("two exchanges", x.exchanges(), 2L);
    }

    private static void bluntReturns() {
        Edge.promise(6, "Returns the index of the pen afterwards.");
        int[] ends = {15, 15, 23, 15, 19, 23, 13, 15, 17, 19, 21, 23, 12, 13, 14, 15, 16, 17, 18, 19, 20, 21, 22, 23};
        for (int i = 0; i < 24; i++) {
            PenNursery x = Edge.fullNest(2);
            Edge.due("by 1, the pen " + i, x.blunt(i, 1), i);
            int end = x.blunt(i, 999);
            Edge.due("by 999, the pen " + i, end, x.indexOf(i));
            Edge.due("without a child", 2 * end + 1 >= 24, true);
            Edge.due("the index", end, ends[i]);
        }
    }

    // ---- promise 7

    private static void uprootNoPen() {
        Edge.promise(7, "Throws `NoSuchElementException` if there is no such pen");
        Edge.due("the first pen", Nursery.planted(3, 5, 6).uproot(0), 5);
        Edge.due("the last pen", Nursery.planted(3, 5, 6).uproot(1), 6);
        Edge.refusesNumbers("pen", Edge.NO_PENS, Nursery.ELEMENT, (x, pen) -> x.uproot(pen));
        Edge.refused("a new object", Nursery.ELEMENT, PenNursery::new, x -> x.uproot(0));
        refusesPensThatAreGone((x, pen) -> x.uproot(pen));
    }

    private static void uprootTakesOut() {
        Edge.promise(7, "Takes a pen out of its nest");
        for (int i = 0; i < 24; i++) {
            PenNursery x = Edge.fullNest(1);
            Edge.due("uproot " + i, x.uproot(i), 10 * i);
            Edge.due("size", x.size(1), 23);
            Edge.due("isConsistent", x.isConsistent(), true);
            for (int other = 0; other < 24; other++) {
                Edge.due("exists " + other, x.exists(other), other != i);
            }
        }
        PenNursery one = Nursery.planted(2, 5);
        Edge.due("the only pen", one.uproot(0), 5);
        Edge.due("size", one.size(2), 0);
    }

    private static void uprootIsNoPenAnyMore() {
        Edge.promise(7, "it is no pen any more");
        PenNursery x = Nursery.planted(2, 5, 6);
        x.uproot(0);
        Edge.due("exists", x.exists(0), false);
        Edge.due("pens", x.pens(), 1);
        Edge.due("pensWith", x.pensWith('a'), 1);
        Edge.due("it was not picked", x.picked(), 0);
        Edge.thrown("uproot again", Nursery.ELEMENT, () -> x.uproot(0));
    }

    private static void uprootReturns() {
        Edge.promise(7, "Returns the date that it had.");
        PenNursery x = Nursery.planted(0, 999, 0, 500);
        Edge.due("999", x.uproot(0), 999);
        Edge.due("0", x.uproot(1), 0);
        Edge.due("500", x.uproot(2), 500);
        PenNursery y = Nursery.planted(0, 5, 5);
        y.sharpen(0, 9);
        y.blunt(1, 999);
        Edge.due("a date that was made smaller", y.uproot(0), 0);
        Edge.due("a date that was made greater", y.uproot(1), 999);
    }

    // ---- promise 8

    private static void moveNoPen() {
        Edge.promise(8, "Throws `NoSuchElementException` if there is no such pen");
        Edge.due("the first pen", Nursery.planted(3, 5, 6).move(0, 0), 0);
        Edge.due("the last pen", Nursery.planted(3, 5, 6).move(1, 0), 0);
        Edge.refusesNumbers("pen", Edge.NO_PENS, Nursery.ELEMENT, (x, pen) -> x.move(pen, 3));
        Edge.refused("a new object", Nursery.ELEMENT, PenNursery::new, x -> x.move(0, 1));
        refusesPensThatAreGone((x, pen) -> x.move(pen, 3));
    }

    private static void moveNests() {
        Edge.promise(8, "Throws `IndexOutOfBoundsException` if there is no such nest");
        PenNursery x = Nursery.planted(1, 5);
        Edge.due("nest 0", x.move(0, 0), 0);
        Edge.due("nest 3", x.move(0, 3), 0);
        Edge.due("nestOf", x.nestOf(0), 3);
        Edge.refusesNumbers("nest", Edge.NO_NESTS, Nursery.INDEX, (y, nest) -> y.move(2, nest));
    }

    private static void moveToItsOwnNest() {
        Edge.promise(8, "Throws `IllegalStateException` if the pen is in this nest");
        for (int i = 0; i < 4; i++) {
            int nest = i;
            Edge.refused("the only pen of nest " + nest, Nursery.STATE, () -> Nursery.planted(nest, 5),
                    x -> x.move(0, nest));
            Edge.refused("a pen of many in nest " + nest, Nursery.STATE, () -> Edge.fullNest(nest),
                    x -> x.move(13, nest));
        }
        for (int pen = 1; pen <= 6; pen++) {
            int number = pen;
            Edge.refused("the pen " + pen, Nursery.STATE, Edge::busy, x -> x.move(number, x.nestOf(number)));
        }
        PenNursery x = Nursery.planted(0, 5);
        x.move(0, 1);
        Edge.thrown("again to the nest in which it is now", Nursery.STATE, () -> x.move(0, 1));
        Edge.due("back", x.move(0, 0), 0);
    }

    private static void moveToAndFromTheEnds() {
        Edge.promise(8, "Takes a pen out of its nest and adds it to another one.");
        PenNursery x = Nursery.planted(0, 5);
        Edge.due("the only pen, to an empty nest", x.move(0, 3), 0);
        Edge.due("the nest that it leaves", x.size(0), 0);
        Edge.due("the nest that it enters", x.size(3), 1);
        PenNursery full = Edge.fullNest(0);
        for (int i = 0; i < 24; i++) {
            Edge.due("one of 24, the sharpest one first", full.move(i, 1), i);
            Edge.due("size", full.size(0), 23 - i);
            Edge.due("size", full.size(1), i + 1);
        }
        Edge.due("isConsistent", full.isConsistent(), true);
        for (int i = 0; i < 24; i++) {
            Edge.due("number, feather and date stay", "" + full.feather(i) + full.date(i), "a" + 10 * i);
        }
    }

    private static void moveReturns() {
        Edge.promise(8, "Returns the index of the pen afterwards.");
        PenNursery x = Nursery.planted(0, 5, 6, 7);
        x.plant(1, 'b', 6);
        Edge.due("sharper than the pen at the index 0", x.move(0, 1), 0);
        Edge.due("index", x.indexOf(0), 0);
        Edge.due("not sharper", x.move(2, 1), 2);
        Edge.due("an equal date and a smaller number, below the index 0", x.move(1, 1), 1);
        Edge.due("nest", Nursery.nest(x, 1), "0a5 1a6 2a7 3b6");
    }
}
