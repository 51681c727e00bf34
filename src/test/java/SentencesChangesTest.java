import java.util.ArrayList;
import java.util.List;

/** The ordinary sentences of the promises 2 to 11, in many states, one test for each. */
public final class SentencesChangesTest {
    private SentencesChangesTest() {
    }

    public static void main(String[] args) {
        plantAdds();
        plantKeepsTheOthers();
        pickReturns();
        pickTakesOut();
        inkIsAdded();
        inkReturns();
        sharpen();
        blunt();
        uproot();
        move();
        merge();
        reorder();
        recall();
        recallReturns();
        Check.end();
    }

    private static void dueNests(PenNursery x, List<List<Model.Pen>> wanted) {
        for (int nest = 0; nest < 4; nest++) {
            Edge.due("nest " + nest, Nursery.nest(x, nest), Sample.line(wanted.get(nest)));
        }
    }

    private static Model.Pen at(List<List<Model.Pen>> nests, int which) {
        List<Model.Pen> all = Sample.all(nests);
        return all.get(which % all.size());
    }

    private static int nestOf(List<List<Model.Pen>> nests, Model.Pen pen) {
        for (int nest = 0; nest < 3; nest++) {
            if (nests.get(nest).contains(pen)) {
                return nest;
            }
        }
        return 3;
    }

    // ---- promises 2 to 4

    private static void plantAdds() {
        Edge.promise(2, "Plants a pen, which is added to a nest.");
        for (int number = 0; number < Sample.COUNT; number++) {
            PenNursery x = Sample.make(number);
            if (x.pens() == 24) {
                x.undo();
            }
            if (x.pens() < 24) {
                List<List<Model.Pen>> nests = Sample.nests(x);
                int pen = x.plant(number % 4, 'g', 51 * number);
                new Model().add(nests.get(number % 4), new Model.Pen(pen, 'g', 51 * number));
                dueNests(x, nests);
            }
        }
    }

    private static void plantKeepsTheOthers() {
        Edge.promise(2, "Plants a pen, which is added to a nest.");
        PenNursery x = new PenNursery();
        for (int i = 0; i < 24; i++) {
            x.plant(i % 4, (char) ('a' + i % 8), 999 - i);
            Edge.due("one pen more", x.pens(), i + 1);
            Edge.due("nest", x.nestOf(i), i % 4);
            Edge.due("feather", x.feather(i), (char) ('a' + i % 8));
            Edge.due("date", x.date(i), 999 - i);
        }
        for (int i = 0; i < 24; i++) {
            Edge.due("date that is kept", x.date(i), 999 - i);
        }
    }

    private static void pickReturns() {
        Edge.promise(3, "Returns the number of the pen.");
        PenNursery x = new PenNursery();
        for (int i = 0; i < 6; i++) {
            x.plant(1, 'e', 10 * ((i + 3) % 6));
        }
        x.addInk('e', 9);
        for (int i = 0; i < 6; i++) {
            Edge.due("pick", x.pick(1), (i + 3) % 6);
        }
    }

    private static void pickTakesOut() {
        Edge.promise(3, "Picks the sharpest pen of a nest, which is taken out and is no pen any more.");
        for (int number = 1; number < Sample.COUNT; number++) {
            PenNursery x = Sample.make(number);
            List<List<Model.Pen>> nests = Sample.nests(x);
            Model.Pen pen = at(nests, 0);
            int nest = nestOf(nests, pen);
            int picked = x.picked();
            int stock = x.addInk(pen.feather, 1);
            Edge.due("pick", x.pick(nest), pen.number);
            new Model().takeOut(nests.get(nest), 0);
            dueNests(x, nests);
            Edge.due("exists", x.exists(pen.number), false);
            Edge.due("ink", x.ink(pen.feather), stock - 1);
            Edge.due("picked", x.picked(), picked + 1);
        }
    }

    private static void inkIsAdded() {
        Edge.promise(4, "Adds ink to a stock.");
        int[] stocks = new int[8];
        PenNursery x = new PenNursery();
        for (int i = 0; i < 60; i++) {
            int which = 3 * i % 8;
            x.addInk((char) ('a' + which), i + 1);
            stocks[which] += i + 1;
            Edge.due("the stock", x.ink((char) ('a' + which)), stocks[which]);
        }
        for (int i = 0; i < 8; i++) {
            Edge.due("each stock", x.ink((char) ('a' + i)), stocks[i]);
        }
    }

    private static void inkReturns() {
        Edge.promise(4, "Returns the stock afterwards.");
        PenNursery x = new PenNursery();
        Edge.due("the first drops", x.addInk('f', 120), 120);
        Edge.due("more", x.addInk('f', 30), 150);
        Edge.due("of another feather", x.addInk('c', 7), 7);
        x.plant(2, 'f', 1);
        x.pick(2);
        Edge.due("after a pick", x.addInk('f', 1), 150);
    }

    // ---- promises 5 to 8

    private static void sharpen() {
        Edge.promise(5, "Makes the date of a pen smaller, but not smaller than 0, and sifts the pen up.");
        for (int number = 1; number < Sample.COUNT; number++) {
            PenNursery x = Sample.make(number);
            Model.Pen pen = at(Sample.nests(x), 7 * number);
            int nest = x.nestOf(pen.number);
            int days = 1 + 50 * number;
            int index = x.sharpen(pen.number, days);
            Edge.due("date", x.date(pen.number), Math.max(0, pen.date - days));
            Edge.due("penAt what was returned", x.penAt(nest, index), pen.number);
            Edge.due("isConsistent", x.isConsistent(), true);
        }
    }

    private static void blunt() {
        Edge.promise(6, "Makes the date of a pen greater, but not greater than 999, and sifts the pen down.");
        for (int number = 1; number < Sample.COUNT; number++) {
            PenNursery x = Sample.make(number);
            Model.Pen pen = at(Sample.nests(x), 5 * number);
            int nest = x.nestOf(pen.number);
            int days = 1 + 50 * number;
            int index = x.blunt(pen.number, days);
            Edge.due("date", x.date(pen.number), Math.min(999, pen.date + days));
            Edge.due("penAt what was returned", x.penAt(nest, index), pen.number);
            Edge.due("isConsistent", x.isConsistent(), true);
        }
    }

    private static void uproot() {
        Edge.promise(7, "Takes a pen out of its nest; it is no pen any more.");
        for (int number = 1; number < Sample.COUNT; number++) {
            PenNursery x = Sample.make(number);
            List<List<Model.Pen>> nests = Sample.nests(x);
            Model.Pen pen = at(nests, 11 * number);
            List<Model.Pen> nest = nests.get(nestOf(nests, pen));
            new Model().takeOut(nest, nest.indexOf(pen));
            Edge.due("uproot", x.uproot(pen.number), pen.date);
            dueNests(x, nests);
            Edge.due("exists", x.exists(pen.number), false);
        }
    }

    private static void move() {
        Edge.promise(8, "Takes a pen out of its nest and adds it to another one.");
        for (int number = 1; number < Sample.COUNT; number++) {
            PenNursery x = Sample.make(number);
            List<List<Model.Pen>> nests = Sample.nests(x);
            Model.Pen pen = at(nests, 3 * number);
            int from = nestOf(nests, pen);
            int to = (from + 1 + number % 3) % 4;
            long exchanges = x.exchanges();
            Model model = new Model();
            model.takeOut(nests.get(from), nests.get(from).indexOf(pen));
            Edge.due("move", x.move(pen.number, to), model.add(nests.get(to), pen));
            dueNests(x, nests);
            Edge.due("exchanges", x.exchanges() - exchanges, model.world.exchanges);
        }
    }

    // ---- promises 9 to 11

    private static void merge() {
        Edge.promise(9, "Empties a nest, and adds its pens to another one, one after the other, in ascending order of"
                + " the indices that they had.");
        for (int number = 0; number < Sample.COUNT; number++) {
            for (int shift = 1; shift < 4; shift++) {
                merge(Sample.make(number), number % 4, (number + shift) % 4);
            }
        }
    }

    private static void merge(PenNursery x, int from, int to) {
        List<List<Model.Pen>> nests = Sample.nests(x);
        long exchanges = x.exchanges();
        Model model = new Model();
        for (Model.Pen pen : nests.get(from)) {
            model.add(nests.get(to), pen);
        }
        nests.get(from).clear();
        Edge.due("merge", x.merge(from, to), nests.get(to).size());
        dueNests(x, nests);
        Edge.due("exchanges", x.exchanges() - exchanges, model.world.exchanges);
    }

    private static void reorder() {
        Edge.promise(10, "Gives the pens of a nest new indices in ascending order of their numbers, and then orders the"
                + " nest.");
        for (int number = 0; number < Sample.COUNT; number++) {
            PenNursery x = Sample.make(number);
            List<List<Model.Pen>> nests = Sample.nests(x);
            long exchanges = x.exchanges();
            Model model = new Model();
            nests.get(number % 3).sort((pen, other) -> pen.number - other.number);
            model.order(nests.get(number % 3));
            Edge.due("reorder", (long) x.reorder(number % 3), model.world.exchanges);
            dueNests(x, nests);
            Edge.due("exchanges", x.exchanges() - exchanges, model.world.exchanges);
        }
    }

    private static void recall() {
        Edge.promise(11, "Recalls all pens with a feather, which are no pens any more: in each nest, the other pens get"
                + " new indices, in which they keep their order, and then the nest is ordered.");
        for (int number = 0; number < Sample.COUNT; number++) {
            for (char feather = 'a'; feather <= 'h'; feather++) {
                recall(Sample.make(number), feather);
            }
        }
    }

    private static void recall(PenNursery x, char feather) {
        List<List<Model.Pen>> nests = Sample.nests(x);
        int stock = x.ink(feather);
        Model model = new Model();
        List<List<Model.Pen>> wanted = new ArrayList<>();
        for (List<Model.Pen> pens : nests) {
            List<Model.Pen> kept = new ArrayList<>(pens);
            kept.removeIf(pen -> pen.feather == feather);
            model.order(kept);
            wanted.add(kept);
        }
        int pens = x.pens();
        Edge.due("recall", x.recall(feather), pens - Sample.all(wanted).size());
        dueNests(x, wanted);
        Edge.due("no ink is used", x.ink(feather), stock);
    }

    private static void recallReturns() {
        Edge.promise(11, "Returns the number of recalled pens, 0 if there are none.");
        PenNursery x = Edge.full();
        for (char feather = 'h'; feather >= 'a'; feather--) {
            Edge.due("three of " + feather, x.recall(feather), 3);
            Edge.due("none is left", x.recall(feather), 0);
        }
        Edge.due("pens", x.pens(), 0);
    }
}
