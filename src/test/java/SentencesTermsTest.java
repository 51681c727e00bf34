import java.util.ArrayList;
import java.util.HashSet;
import java.util.List;
import java.util.Set;

/** The ordinary sentences of "What it is" and of the Terms, in many states, one test for each. */
public final class SentencesTermsTest {
    private SentencesTermsTest() {
    }

    public static void main(String[] args) {
        binaryHeaps();
        whatPensCanDo();
        observablePositions();
        twoWays();
        roundedDown();
        everyPenGetsANumber();
        everyPenIsInOneNest();
        indicesFromZero();
        noPenIsSharperThanItsParent();
        addingAfterPlant();
        addingAfterMove();
        takingOut();
        ordering();
        repetitions();
        optionalParts();
        alternatives();
        Check.end();
    }

    // ---- what it is, and the first sentences of the terms

    private static void binaryHeaps() {
        Edge.whatItIs("A nursery of pens that are kept in binary heaps.");
        for (int pens = 1; pens <= 24; pens++) {
            Dice dice = new Dice(pens);
            PenNursery x = new PenNursery();
            for (int i = 0; i < pens; i++) {
                x.plant(1, 'a', dice.below(100));
            }
            for (int index = 1; index < pens; index++) {
                int pen = x.penAt(1, index);
                Edge.due("parent", x.parentOf(pen), x.penAt(1, (index - 1) / 2));
                Edge.due("the parent's date", x.date(x.parentOf(pen)) <= x.date(pen), true);
            }
        }
    }

    private static void whatPensCanDo() {
        Edge.terms("Pens grow from feathers and are ordered by dates; they can be sharpened, blunted, moved between"
                + " nests, recalled by their feathers and picked, for which ink is used.");
        PenNursery x = new PenNursery();
        Edge.due("grown from a", x.plant(0, 'a', 50), 0);
        Edge.due("grown from b", x.plant(0, 'b', 40), 1);
        Edge.due("ordered by dates", Nursery.nest(x, 0), "1b40 0a50");
        Edge.due("sharpened", x.sharpen(0, 20), 0);
        Edge.due("blunted", x.blunt(0, 30), 1);
        Edge.due("moved", x.move(0, 3), 0);
        Edge.due("recalled", x.recall('b'), 1);
        x.addInk('a', 2);
        Edge.due("picked", x.pick(3), 0);
        Edge.due("for which ink is used", x.ink('a'), 1);
        Edge.due("no pen is left", x.pens(), 0);
    }

    private static void observablePositions() {
        Edge.terms("The positions of the pens in the heaps are observable.");
        Sample.everywhere((x, nests) -> {
            for (int nest = 0; nest < 4; nest++) {
                for (int i = 0; i < nests.get(nest).size(); i++) {
                    int pen = nests.get(nest).get(i).number;
                    Edge.due("penAt", x.penAt(nest, i), pen);
                    Edge.due("nestOf", x.nestOf(pen), nest);
                    Edge.due("indexOf", x.indexOf(pen), i);
                }
            }
        });
    }

    private static void twoWays() {
        Edge.terms("The class finds pens by their ranks, and counts pens, in two ways each, and executes programs.");
        Sample.everywhere((x, nests) -> {
            for (int nest = 0; nest < 4; nest++) {
                List<Model.Pen> sorted = new ArrayList<>(nests.get(nest));
                sorted.sort(Model.SHARPER);
                for (int rank = 0; rank < sorted.size(); rank++) {
                    Edge.due("by rank", x.penByRank(nest, rank), sorted.get(rank).number);
                    Edge.due("by sorting", x.penBySorting(nest, rank), sorted.get(rank).number);
                    int date = sorted.get(rank).date;
                    Edge.due("both counts", x.countBefore(nest, date), x.countBeforeByScan(nest, date));
                }
            }
            Edge.due("a program", Nursery.run(x, "ink a+1"), 1);
        });
    }

    private static void roundedDown() {
        Edge.terms("All integer divisions are rounded down.");
        PenNursery x = Edge.fullNest(0);
        Edge.due("(2 - 1) / 2", x.parentOf(2), 0);
        Edge.due("(22 - 1) / 2", x.parentOf(22), 10);
        // Of three pens n / 2 - 1 is 0, and of five it is 1: 4, 3 and 2 have no children.
        PenNursery three = Nursery.planted(0, 3, 2, 1);
        Edge.due("order three", three.reorder(0), 1);
        PenNursery five = Nursery.planted(0, 5, 4, 3, 2, 1);
        Edge.due("order five", five.reorder(0), 3);
        Edge.due("nest", Nursery.nest(five, 0), "4a1 3a2 2a3 0a5 1a4");
    }

    // ---- pens and nests

    private static void everyPenGetsANumber() {
        Edge.terms("Every pen that is planted gets a number; the numbers are consecutive, begin with 0");
        PenNursery x = new PenNursery();
        for (int i = 0; i < 10; i++) {
            Edge.due("by a call", x.plant(i % 4, 'c', 70), 2 * i);
            Nursery.run(x, "plant " + i % 4 + "d@60");
            Edge.due("by a program", x.exists(2 * i + 1), true);
            Edge.due("the feather", x.feather(2 * i + 1), 'd');
            Edge.due("not yet", x.exists(2 * i + 2), false);
        }
    }

    private static void everyPenIsInOneNest() {
        Edge.terms("Every pen is in one nest.");
        Sample.everywhere((x, nests) -> {
            Set<Integer> numbers = new HashSet<>();
            for (Model.Pen pen : Sample.all(nests)) {
                Edge.due("once in all nests", numbers.add(pen.number), true);
                Edge.due("exists", x.exists(pen.number), true);
            }
            Edge.due("each pen is in one", x.pens(), numbers.size());
        });
    }

    private static void indicesFromZero() {
        Edge.terms("its pens have the indices from 0 to n - 1");
        Sample.everywhere((x, nests) -> {
            for (int i = 0; i < 4; i++) {
                int nest = i;
                int size = x.size(nest);
                Set<Integer> numbers = new HashSet<>();
                for (int index = 0; index < size; index++) {
                    numbers.add(x.penAt(nest, index));
                }
                Edge.due("a pen at each index", numbers.size(), size);
                Edge.thrown("index -1", Nursery.ELEMENT, () -> x.penAt(nest, -1));
                Edge.thrown("index n", Nursery.ELEMENT, () -> x.penAt(nest, size));
            }
        });
    }

    private static void noPenIsSharperThanItsParent() {
        Edge.terms("and no pen is sharper than the pen at its parent");
        Sample.everywhere((x, nests) -> {
            for (List<Model.Pen> pens : nests) {
                for (int i = 1; i < pens.size(); i++) {
                    Model.Pen parent = pens.get((i - 1) / 2);
                    Edge.due("sharper than its parent", Model.SHARPER.compare(pens.get(i), parent) < 0, false);
                    Edge.due("parentOf", x.parentOf(pens.get(i).number), parent.number);
                }
            }
        });
    }

    private static void addingAfterPlant() {
        Edge.terms("To add a pen to a nest means to give it the greatest index and to sift it up.");
        PenNursery x = Nursery.planted(0, 10, 20, 30, 40, 50);
        x.plant(0, 'b', 999);
        Edge.due("it stays at the greatest index", Nursery.nest(x, 0), "0a10 1a20 2a30 3a40 4a50 5b999");
        x.plant(0, 'c', 25);
        Edge.due("up to its place", Nursery.nest(x, 0), "0a10 1a20 6c25 3a40 4a50 5b999 2a30");
        x.plant(0, 'd', 5);
        Edge.due("up to the index 0", Nursery.nest(x, 0), "7d5 0a10 6c25 1a20 4a50 5b999 2a30 3a40");
        Edge.due("the exchanges", x.exchanges(), 4L);
    }

    private static void addingAfterMove() {
        Edge.terms("To add a pen to a nest means to give it the greatest index and to sift it up.");
        for (int number = 1; number < Sample.COUNT; number++) {
            PenNursery x = Sample.make(number);
            List<List<Model.Pen>> nests = Sample.nests(x);
            Model.Pen pen = Sample.all(nests).get(0);
            int to = (x.nestOf(pen.number) + 1) % 4;
            int index = new Model().add(nests.get(to), pen);
            Edge.due("move", x.move(pen.number, to), index);
            Edge.due("nest", Nursery.nest(x, to), Sample.line(nests.get(to)));
        }
    }

    private static void takingOut() {
        Edge.terms("To take a pen out of a nest means: the pen with the greatest index is put at the index of the pen"
                + " that is taken out, unless it is this pen itself; it is sifted up, and then sifted down.");
        for (int number = 1; number < Sample.COUNT; number++) {
            for (int i = 0; i < Sample.make(number).pens(); i++) {
                takingOut(Sample.make(number), i);
            }
        }
    }

    private static void takingOut(PenNursery x, int which) {
        List<List<Model.Pen>> nests = Sample.nests(x);
        Model.Pen pen = Sample.all(nests).get(which);
        long before = x.exchanges();
        int nest = x.nestOf(pen.number);
        Model model = new Model();
        model.takeOut(nests.get(nest), x.indexOf(pen.number));
        Edge.due("uproot", x.uproot(pen.number), pen.date);
        Edge.due("nest", Nursery.nest(x, nest), Sample.line(nests.get(nest)));
        Edge.due("exchanges", x.exchanges() - before, model.world.exchanges);
    }

    private static void ordering() {
        Edge.terms("To order a nest means: for each index from n / 2 - 1 down to 0, the pen at this index is sifted"
                + " down.");
        for (int number = 0; number < Sample.COUNT; number++) {
            for (int nest = 0; nest < 4; nest++) {
                PenNursery x = Sample.make(number);
                List<Model.Pen> pens = Sample.nests(x).get(nest);
                pens.sort((pen, other) -> pen.number - other.number);
                Model model = new Model();
                model.order(pens);
                Edge.due("reorder", (long) x.reorder(nest), model.world.exchanges);
                Edge.due("nest", Nursery.nest(x, nest), Sample.line(pens));
            }
        }
    }

    // ---- programs

    private static void repetitions() {
        Edge.terms("braces mean zero or more repetitions");
        Edge.due("zero", Nursery.run(new PenNursery(), "order 0"), 1);
        Edge.due("one", Nursery.run(new PenNursery(), "order 0;recall b"), 2);
        Edge.due("more", Nursery.run(new PenNursery(), "order 0;recall b;merge 3>1;ink h+5;plant 1c@7"), 5);
    }

    private static void optionalParts() {
        Edge.terms("brackets mean an optional part");
        String[] numbers = {"5", "05", "005", "50", "050", "500"};
        int[] values = {5, 5, 5, 50, 50, 500};
        for (int i = 0; i < numbers.length; i++) {
            PenNursery x = new PenNursery();
            Edge.due("run", Nursery.run(x, "ink a+" + numbers[i] + ";plant 0a@" + numbers[i]), 2);
            Edge.due("ink", x.ink('a'), values[i]);
            Edge.due("date", x.date(0), values[i]);
        }
    }

    private static void alternatives() {
        alternative("\"plant \" digit feather \"@\" number", "plant 3c@120", x -> x.plant(3, 'c', 120));
        alternative("\"pick \" digit", "pick 1", x -> x.pick(1));
        alternative("\"sharpen \" number \"-\" number", "sharpen 21-77", x -> x.sharpen(21, 77));
        alternative("\"blunt \" number \"+\" number", "blunt 20+205", x -> x.blunt(20, 205));
        alternative("\"uproot \" number", "uproot 22", x -> x.uproot(22));
        alternative("\"move \" number \">\" digit", "move 12>3", x -> x.move(12, 3));
        alternative("\"merge \" digit \">\" digit", "merge 2>1", x -> x.merge(2, 1));
        alternative("\"order \" digit", "order 3", x -> x.reorder(3));
        alternative("\"recall \" feather", "recall e", x -> x.recall('e'));
        alternative("\"ink \" feather \"+\" number", "ink g+41", x -> x.addInk('g', 41));
    }

    /** A program of one command does what the call does, and undo takes it back. */
    private static void alternative(String words, String command, Edge.Call call) {
        Edge.terms(words);
        PenNursery called = roomy();
        String before = Nursery.state(called);
        call.on(called);
        PenNursery program = roomy();
        Edge.due(command, Nursery.run(program, command), 1);
        Edge.due("the state after " + command, Nursery.state(program), Nursery.state(called));
        Edge.due("another state after " + command, Nursery.state(program).equals(before), false);
        Edge.due("undo of " + command, program.undo(), 7);
        Edge.due("the state after undo", Nursery.state(program), before);
    }

    private static PenNursery roomy() {
        PenNursery x = Edge.full();
        x.uproot(0);
        return x;
    }
}
