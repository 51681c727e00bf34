/** Promises 5 to 8 and 12 to 20: changing pens, and their properties. */
public final class PensTest {
    private static final int[] NO_PENS = {-1, 7, 24, Integer.MIN_VALUE, Integer.MAX_VALUE};
    private static final int[] NO_DAYS = {0, -1, 1000, Integer.MIN_VALUE, Integer.MAX_VALUE};

    private PensTest() {
    }

    public static void main(String[] args) {
        sharpening();
        blunting();
        uprooting();
        uprootingSiftsUp();
        moving();
        daysAreRefused();
        propertiesOfPens();
        ranksOfPens();
        noSuchPen();
        Check.end();
    }

    private static PenNursery seven() {
        return Nursery.planted(0, 10, 20, 15, 30, 40, 16, 17);
    }

    private static void sharpening() {
        PenNursery x = seven();
        Check.due("sharpen a little", x.sharpen(4, 19), 4);
        Check.due("date", x.date(4), 21);
        Check.due("equal date, greater number", x.sharpen(4, 1), 4);
        Check.due("one level up", x.sharpen(4, 1), 1);
        Check.due("nest", Nursery.nest(x, 0), "0a10 4a19 2a15 3a30 1a20 5a16 6a17");
        Check.due("not smaller than 0", x.sharpen(3, 999), 0);
        Check.due("date", x.date(3), 0);
        Check.due("nest", Nursery.nest(x, 0), "3a0 0a10 2a15 4a19 1a20 5a16 6a17");
        Check.due("exchanges", x.exchanges(), 3L);
        Check.due("sharpen a date of 0", x.sharpen(3, 1), 0);
        Check.due("that is a change, one of 12", x.undo(), 7);
        Check.due("undone without a difference", x.date(3), 0);
        PenNursery y = Nursery.planted(1, 5, 9);
        Check.due("exactly to 0", y.sharpen(1, 9), 0);
        Check.due("date", y.date(1), 0);
    }

    private static void blunting() {
        PenNursery x = seven();
        Check.due("blunt a leaf", x.blunt(4, 5), 4);
        Check.due("two levels down", x.blunt(0, 20), 5);
        Check.due("nest", Nursery.nest(x, 0), "2a15 1a20 5a16 3a30 4a45 0a30 6a17");
        Check.due("not greater than 999", x.blunt(2, 999), 6);
        Check.due("date", x.date(2), 999);
        PenNursery y = Nursery.planted(0, 5, 6, 6);
        Check.due("the sharper child goes up", y.blunt(0, 2), 1);
        Check.due("nest", Nursery.nest(y, 0), "1a6 0a7 2a6");
        Check.due("exactly to 999", y.blunt(0, 992), 1);
        Check.due("date", y.date(0), 999);
        Check.due("999 stays", y.blunt(0, 1), 1);
        Check.due("exchanges", y.exchanges(), 1L);
        PenNursery z = Nursery.planted(0, 5, 9);
        Check.due("equal date, smaller number stays", z.blunt(0, 4), 0);
    }

    private static void uprooting() {
        PenNursery x = seven();
        Check.due("uproot the last one", x.uproot(6), 17);
        Check.due("exchanges", x.exchanges(), 0L);
        Check.due("uproot the first one", x.uproot(0), 10);
        Check.due("nest", Nursery.nest(x, 0), "2a15 1a20 5a16 3a30 4a40");
        Check.due("exchanges", x.exchanges(), 1L);
        Check.due("exists", x.exists(0), false);
        Check.thrown("uproot again", Nursery.ELEMENT, () -> x.uproot(0));
        Check.due("no ink is used", x.picked(), 0);
        for (int pen : new int[] {2, 1, 5, 3, 4}) {
            x.uproot(pen);
        }
        Check.due("all are gone", x.pens(), 0);
    }

    private static void uprootingSiftsUp() {
        // The last pen (12) comes from the other side and is sharper than the new parent (50).
        PenNursery x = Nursery.planted(0, 1, 50, 10, 60, 70, 11, 12);
        Check.due("uproot", x.uproot(3), 60);
        Check.due("nest", Nursery.nest(x, 0), "0a1 6a12 2a10 1a50 4a70 5a11");
        Check.due("exchanges", x.exchanges(), 1L);
    }

    private static void moving() {
        PenNursery x = seven();
        x.plant(3, 'b', 16);
        Check.due("move", x.move(0, 3), 0);
        Check.due("nest 0", Nursery.nest(x, 0), "2a15 1a20 5a16 3a30 4a40 6a17");
        Check.due("nest 3", Nursery.nest(x, 3), "0a10 7b16");
        Check.due("exchanges", x.exchanges(), 3L);
        Check.due("move to an empty nest", x.move(7, 1), 0);
        Check.due("feather is kept", x.feather(7), 'b');
        for (int nest : Nursery.NO_NESTS) {
            Check.thrown("move to nest " + nest, Nursery.INDEX, () -> x.move(0, nest));
            Check.thrown("move no pen to nest " + nest, Nursery.ELEMENT, () -> x.move(8, nest));
        }
        Check.thrown("move to the same nest", Nursery.STATE, () -> x.move(0, 3));
        Check.due("moves are changes, refused ones are not", x.undo(), 7);
        Check.due("nest 3", Nursery.nest(x, 3), "0a10 7b16");
    }

    private static void daysAreRefused() {
        PenNursery x = seven();
        for (int days : NO_DAYS) {
            Check.thrown("sharpen by " + days, Nursery.ARGUMENT, () -> x.sharpen(1, days));
            Check.thrown("blunt by " + days, Nursery.ARGUMENT, () -> x.blunt(1, days));
            Check.thrown("sharpen no pen by " + days, Nursery.ELEMENT, () -> x.sharpen(7, days));
            Check.thrown("blunt no pen by " + days, Nursery.ELEMENT, () -> x.blunt(7, days));
        }
        Check.due("nothing changed", Nursery.nest(x, 0), "0a10 1a20 2a15 3a30 4a40 5a16 6a17");
        Check.due("no change", x.undo(), 6);
    }

    private static void propertiesOfPens() {
        PenNursery x = seven();
        x.plant(2, 'h', 999);
        Check.due("pens", x.pens(), 8);
        Check.due("exists", x.exists(0), true);
        Check.due("exists", x.exists(7), true);
        Check.due("exists", x.exists(8), false);
        Check.due("feather", x.feather(0), 'a');
        Check.due("feather", x.feather(7), 'h');
        Check.due("date", x.date(7), 999);
        Check.due("date", x.date(5), 16);
        Check.due("nestOf", x.nestOf(7), 2);
        Check.due("nestOf", x.nestOf(3), 0);
        Check.due("indexOf", x.indexOf(7), 0);
        Check.due("indexOf", x.indexOf(6), 6);
        Check.due("parentOf", x.parentOf(1), 0);
        Check.due("parentOf", x.parentOf(5), 2);
        Check.due("parentOf", x.parentOf(6), 2);
        Check.due("depth", x.depth(0), 0);
        Check.due("depth", x.depth(2), 1);
        Check.due("depth", x.depth(3), 2);
        Check.due("depth", x.depth(6), 2);
        Check.thrown("parent at the index 0", Nursery.ELEMENT, () -> x.parentOf(0));
        Check.thrown("parent at the index 0", Nursery.ELEMENT, () -> x.parentOf(7));
        PenNursery y = new PenNursery();
        for (int i = 0; i < 24; i++) {
            y.plant(3, 'a', i);
        }
        Check.due("depth 3", y.depth(14), 3);
        Check.due("depth 4", y.depth(15), 4);
        Check.due("parent of the last", y.parentOf(23), 11);
    }

    private static void ranksOfPens() {
        PenNursery x = Nursery.planted(0, 9, 8, 8, 8, 1);
        x.plant(1, 'a', 0);
        Check.due("rank", x.rankOf(4), 0);
        Check.due("rank by number", x.rankOf(1), 1);
        Check.due("rank by number", x.rankOf(2), 2);
        Check.due("rank by number", x.rankOf(3), 3);
        Check.due("rank", x.rankOf(0), 4);
        Check.due("other nests do not count", x.rankOf(5), 0);
    }

    private static void noSuchPen() {
        PenNursery x = seven();
        for (int pen : NO_PENS) {
            Check.due("exists " + pen, x.exists(pen), false);
            Check.thrown("feather " + pen, Nursery.ELEMENT, () -> x.feather(pen));
            Check.thrown("date " + pen, Nursery.ELEMENT, () -> x.date(pen));
            Check.thrown("nestOf " + pen, Nursery.ELEMENT, () -> x.nestOf(pen));
            Check.thrown("indexOf " + pen, Nursery.ELEMENT, () -> x.indexOf(pen));
            Check.thrown("parentOf " + pen, Nursery.ELEMENT, () -> x.parentOf(pen));
            Check.thrown("depth " + pen, Nursery.ELEMENT, () -> x.depth(pen));
            Check.thrown("rankOf " + pen, Nursery.ELEMENT, () -> x.rankOf(pen));
            Check.thrown("sharpen " + pen, Nursery.ELEMENT, () -> x.sharpen(pen, 1));
            Check.thrown("blunt " + pen, Nursery.ELEMENT, () -> x.blunt(pen, 1));
            Check.thrown("uproot " + pen, Nursery.ELEMENT, () -> x.uproot(pen));
            Check.thrown("move " + pen, Nursery.ELEMENT, () -> x.move(pen, 1));
        }
    }
}
