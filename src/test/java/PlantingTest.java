/** Promises 1 to 4: a new object, plant, pick, addInk. */
public final class PlantingTest {
    private PlantingTest() {
    }

    public static void main(String[] args) {
        newObject();
        plantAddsToHeap();
        plantRefuses();
        plantRefusesAtTheLimit();
        pickTakesTheSharpest();
        pickRefuses();
        inkIsAdded();
        inkIsRefused();
        Check.end();
    }

    private static void newObject() {
        PenNursery x = new PenNursery();
        Check.due("state of a new object", Nursery.state(x),
                "||||0 0 0 0 0 0 0 0 0 0 0 java.lang.ArithmeticException");
        Check.thrown("charAt of a new object", Nursery.INDEX, () -> x.charAt(0));
        Check.thrown("run of a new object", Nursery.ARGUMENT, x::run);
        PenNursery y = new PenNursery();
        Check.thrown("errorPosition of a new object", Nursery.ELEMENT, y::errorPosition);
        Check.thrown("failedCommand of a new object", Nursery.ELEMENT, y::failedCommand);
        Check.thrown("undo of a new object", Nursery.STATE, y::undo);
        Check.thrown("restore of a new object", Nursery.STATE, y::restore);
    }

    private static void plantAddsToHeap() {
        PenNursery x = new PenNursery();
        Check.due("first number", x.plant(1, 'a', 500), 0);
        Check.due("second number", x.plant(1, 'h', 999), 1);
        Check.due("third number", x.plant(1, 'b', 0), 2);
        Check.due("fourth number, another nest", x.plant(3, 'c', 7), 3);
        Check.due("equal date: smaller number is sharper", x.plant(1, 'd', 500), 4);
        Check.due("nest 1", Nursery.nest(x, 1), "2b0 4d500 0a500 1h999");
        Check.due("nest 3", Nursery.nest(x, 3), "3c7");
        Check.due("exchanges", x.exchanges(), 2L);
        x.uproot(4);
        Check.due("numbers are not used again", x.plant(1, 'a', 1), 5);
    }

    private static void plantRefuses() {
        PenNursery x = new PenNursery();
        for (int nest : Nursery.NO_NESTS) {
            Check.thrown("plant in nest " + nest, Nursery.INDEX, () -> x.plant(nest, 'z', -1));
        }
        for (char feather : Nursery.NO_FEATHERS) {
            Check.thrown("plant " + (int) feather, Nursery.ARGUMENT, () -> x.plant(0, feather, 5));
        }
        for (int date : new int[] {-1, 1000, Integer.MIN_VALUE, Integer.MAX_VALUE}) {
            Check.thrown("plant at " + date, Nursery.ARGUMENT, () -> x.plant(0, 'a', date));
        }
        Check.due("no pens", x.pens(), 0);
        Check.thrown("no change", Nursery.STATE, x::undo);
        Check.due("no number is lost", x.plant(0, 'a', 5), 0);
    }

    private static void plantRefusesAtTheLimit() {
        PenNursery x = new PenNursery();
        for (int i = 0; i < 24; i++) {
            Check.due("pen " + i, x.plant(i % 4, 'a', 999 - i), i);
        }
        Check.thrown("pen 25", Nursery.STATE, () -> x.plant(0, 'a', 1));
        Check.thrown("pen 25, no nest", Nursery.INDEX, () -> x.plant(4, 'a', 1));
        Check.thrown("pen 25, no feather", Nursery.ARGUMENT, () -> x.plant(0, 'i', 1));
        x.uproot(7);
        Check.due("room again", x.plant(0, 'a', 1), 24);
        PenNursery y = new PenNursery();
        for (int i = 0; i < 24; i++) {
            y.plant(2, 'b', 24 - i);
        }
        Check.due("24 pens in one nest", y.size(2), 24);
        Check.due("consistent", y.isConsistent(), true);
        Check.thrown("pen 25 in a full nest", Nursery.STATE, () -> y.plant(2, 'a', 1));
    }

    private static void pickTakesTheSharpest() {
        PenNursery x = new PenNursery();
        int[] dates = {10, 20, 15, 30, 40, 16, 17};
        for (int date : dates) {
            x.plant(0, 'c', date);
        }
        x.addInk('c', 2);
        Check.due("pick", x.pick(0), 0);
        Check.due("nest after a pick", Nursery.nest(x, 0), "2c15 1c20 5c16 3c30 4c40 6c17");
        Check.due("exchanges", x.exchanges(), 2L);
        Check.due("ink", x.ink('c'), 1);
        Check.due("picked", x.picked(), 1);
        Check.due("exists", x.exists(0), false);
        Check.due("pick", x.pick(0), 2);
        Check.due("ink", x.ink('c'), 0);
        Check.thrown("pick without ink", Nursery.UNSUPPORTED, () -> x.pick(0));
        Check.due("pens", x.pens(), 5);
        PenNursery y = new PenNursery();
        y.plant(1, 'd', 5);
        y.addInk('d', 1);
        Check.due("pick the only pen", y.pick(1), 0);
        Check.due("empty nest", y.size(1), 0);
    }

    private static void pickRefuses() {
        PenNursery x = Nursery.planted(2, 5);
        for (int nest : Nursery.NO_NESTS) {
            Check.thrown("pick of nest " + nest, Nursery.INDEX, () -> x.pick(nest));
        }
        Check.thrown("pick of an empty nest", Nursery.ELEMENT, () -> x.pick(0));
        x.addInk('b', 5);
        Check.thrown("pick with other ink", Nursery.UNSUPPORTED, () -> x.pick(2));
        Check.due("nothing changed", Nursery.state(x), "||0a5 ||0 5 0 0 0 0 0 0 1 0 0 0.0");
    }

    private static void inkIsAdded() {
        PenNursery x = new PenNursery();
        Check.due("addInk", x.addInk('a', 1), 1);
        Check.due("addInk", x.addInk('a', 997), 998);
        Check.due("addInk", x.addInk('a', 1), 999);
        Check.due("drops above 999 are lost", x.addInk('a', 999), 999);
        Check.due("addInk", x.addInk('h', 999), 999);
        Check.due("other stock", x.ink('b'), 0);
        Check.due("stock", x.ink('h'), 999);
    }

    private static void inkIsRefused() {
        PenNursery x = new PenNursery();
        for (char feather : Nursery.NO_FEATHERS) {
            Check.thrown("addInk " + (int) feather, Nursery.ARGUMENT, () -> x.addInk(feather, 5));
        }
        for (int drops : new int[] {0, -1, 1000, Integer.MIN_VALUE, Integer.MAX_VALUE}) {
            Check.thrown("addInk of " + drops, Nursery.ARGUMENT, () -> x.addInk('a', drops));
        }
        Check.due("no ink", Nursery.ink(x), "");
        Check.thrown("no change", Nursery.STATE, x::undo);
    }
}
