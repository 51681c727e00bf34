/** Promises 29 to 36: feathers, ink and statistics. */
public final class StatisticsTest {
    private StatisticsTest() {
    }

    public static void main(String[] args) {
        feathers();
        commonFeathers();
        pickedPens();
        exchangesOfAllChanges();
        means();
        shares();
        consistency();
        Check.end();
    }

    private static void feathers() {
        PenNursery x = new PenNursery();
        x.plant(0, 'a', 1);
        x.plant(1, 'h', 2);
        x.plant(3, 'h', 3);
        x.addInk('h', 4);
        Check.due("pensWith", x.pensWith('a'), 1);
        Check.due("pensWith", x.pensWith('h'), 2);
        Check.due("pensWith", x.pensWith('b'), 0);
        Check.due("ink", x.ink('h'), 4);
        Check.due("ink", x.ink('a'), 0);
        for (char feather : Nursery.NO_FEATHERS) {
            Check.thrown("pensWith " + (int) feather, Nursery.ARGUMENT, () -> x.pensWith(feather));
            Check.thrown("ink " + (int) feather, Nursery.ARGUMENT, () -> x.ink(feather));
        }
    }

    private static void commonFeathers() {
        PenNursery x = new PenNursery();
        Check.thrown("commonFeather without pens", Nursery.ELEMENT, x::commonFeather);
        x.plant(0, 'h', 1);
        Check.due("commonFeather", x.commonFeather(), 'h');
        x.plant(1, 'c', 1);
        Check.due("the first one in the alphabet", x.commonFeather(), 'c');
        x.plant(2, 'h', 1);
        Check.due("pens of several nests", x.commonFeather(), 'h');
        x.plant(2, 'b', 1);
        x.plant(3, 'b', 1);
        Check.due("the first one in the alphabet", x.commonFeather(), 'b');
        x.recall('b');
        x.recall('c');
        x.recall('h');
        Check.thrown("commonFeather without pens", Nursery.ELEMENT, x::commonFeather);
    }

    private static void pickedPens() {
        PenNursery x = Nursery.planted(0, 1, 2, 3);
        Check.due("picked", x.picked(), 0);
        x.addInk('a', 2);
        x.pick(0);
        x.pick(0);
        Check.due("picked", x.picked(), 2);
        Check.thrown("no ink", Nursery.UNSUPPORTED, () -> x.pick(0));
        x.uproot(2);
        Check.due("picked, not uprooted", x.picked(), 2);
        x.undo();
        x.undo();
        Check.due("picked after undo", x.picked(), 1);
    }

    private static void exchangesOfAllChanges() {
        PenNursery x = Nursery.planted(0, 3, 2, 1);
        Check.due("plant", x.exchanges(), 2L);
        x.sharpen(1, 2);
        Check.due("sharpen", x.exchanges(), 3L);
        x.blunt(1, 9);
        Check.due("blunt", x.exchanges(), 4L);
        x.move(1, 1);
        Check.due("move of the last one", x.exchanges(), 4L);
        x.merge(0, 1);
        Check.due("merge", x.exchanges(), 5L);
        x.reorder(1);
        Check.due("reorder", x.exchanges(), 6L);
        x.blunt(0, 9);
        x.uproot(2);
        Check.due("uproot", x.exchanges(), 7L);
        x.undo();
        Check.due("undo", x.exchanges(), 6L);
        x.plant(2, 'h', 50);
        x.addInk('a', 1);
        x.pick(1);
        Check.due("pick", x.exchanges(), 7L);
        x.recall('a');
        Check.due("exchanges of pens that are gone", x.exchanges(), 7L);
        Check.thrown("a refused call", Nursery.STATE, () -> x.move(3, 2));
        Check.due("exchanges", x.exchanges(), 7L);
    }

    private static void means() {
        PenNursery x = new PenNursery();
        Check.thrown("meanDate without pens", Nursery.ARITHMETIC, x::meanDate);
        x.plant(0, 'a', 0);
        Check.due("meanDate", x.meanDate(), 0.0);
        x.plant(1, 'a', 1);
        Check.due("meanDate", x.meanDate(), 0.5);
        x.plant(3, 'a', 999);
        Check.due("meanDate", x.meanDate(), 1000.0 / 3.0);
        x.uproot(0);
        x.uproot(1);
        x.uproot(2);
        Check.thrown("meanDate without pens", Nursery.ARITHMETIC, x::meanDate);
    }

    private static void shares() {
        PenNursery x = new PenNursery();
        Check.thrown("pickedShare without pens", Nursery.ARITHMETIC, x::pickedShare);
        x.plant(0, 'a', 5);
        Check.due("pickedShare", x.pickedShare(), 0.0f);
        x.addInk('a', 9);
        x.pick(0);
        Check.due("pickedShare", x.pickedShare(), 1.0f);
        x.plant(0, 'a', 5);
        x.plant(0, 'a', 6);
        Check.due("pickedShare", x.pickedShare(), 1.0f / 3.0f);
        x.uproot(1);
        Check.due("planted, not present", x.pickedShare(), 1.0f / 3.0f);
        for (int i = 0; i < 6; i++) {
            x.undo();
        }
        Check.thrown("pickedShare after undo", Nursery.ARITHMETIC, x::pickedShare);
    }

    private static void consistency() {
        PenNursery x = new PenNursery();
        Check.due("isConsistent of a new object", x.isConsistent(), true);
        for (int i = 0; i < 24; i++) {
            x.plant(i % 3, 'a', (i * 37) % 1000);
        }
        String before = Nursery.state(x);
        Check.due("isConsistent", x.isConsistent(), true);
        Check.due("nothing changed", Nursery.state(x), before);
    }
}
