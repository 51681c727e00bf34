import java.util.ArrayList;
import java.util.List;

/**
 * Nurseries in ordinary states, for the tests of ordinary sentences. What is in their nests is
 * read from the output line, so that each other call can be compared with it.
 */
final class Sample {
    interface Law {
        void holds(PenNursery nursery, List<List<Model.Pen>> nests);
    }

    static final int COUNT = 20;
    private static final int CHANGES = 60;
    private static final String[] PROGRAMS = {"plant 0c@5;move 0>3", "merge 1>2;order 2", "ink d+7;recall e",
        "sharpen 2-40;blunt 3+40", "pick 0;pick 1"};

    private Sample() {
    }

    /** The law is asked of one nursery in each of the states, in the same order each time. */
    static void everywhere(Law law) {
        for (int number = 0; number < COUNT; number++) {
            PenNursery nursery = make(number);
            law.holds(nursery, nests(nursery));
        }
    }

    static PenNursery make(int number) {
        switch (number) {
            case 0: return new PenNursery();
            case 1: return Edge.quiet();
            case 2: return Edge.full();
            case 3: return Edge.fullNest(2);
            default: return mixed(number);
        }
    }

    /** Some changes with a program behind them; those that are refused are left out. */
    private static PenNursery mixed(int seed) {
        Dice dice = new Dice(seed);
        PenNursery x = new PenNursery();
        int nests = 1 + dice.below(4);
        for (int i = 0; i < CHANGES; i++) {
            int nest = dice.below(nests);
            int pen = dice.below(i + 1);
            int date = dice.below(1000);
            char feather = (char) ('a' + dice.below(8));
            Check.answer(() -> change(x, dice.below(20), nest, pen, date, feather));
        }
        Check.answer(() -> Nursery.run(x, PROGRAMS[seed % PROGRAMS.length]));
        return x;
    }

    private static int change(PenNursery x, int kind, int nest, int pen, int date, char feather) {
        switch (kind) {
            case 0: return x.pick(nest);
            case 1: return x.sharpen(pen, date);
            case 2: return x.blunt(pen, date);
            case 3: return x.uproot(pen);
            case 4: return x.move(pen, nest);
            case 5: return x.reorder(nest);
            case 6:
            case 7: return x.addInk(feather, date);
            default: return x.plant(nest, feather, date);
        }
    }

    static List<List<Model.Pen>> nests(PenNursery nursery) {
        List<List<Model.Pen>> nests = new ArrayList<>();
        for (int nest = 0; nest < 4; nest++) {
            nests.add(pens(Nursery.nest(nursery, nest)));
        }
        return nests;
    }

    private static List<Model.Pen> pens(String line) {
        List<Model.Pen> pens = new ArrayList<>();
        for (String word : line.isEmpty() ? new String[0] : line.split(" ")) {
            String[] numbers = word.split("[a-h]");
            char feather = word.charAt(numbers[0].length());
            pens.add(new Model.Pen(Integer.parseInt(numbers[0]), feather, Integer.parseInt(numbers[1])));
        }
        return pens;
    }

    static List<Model.Pen> all(List<List<Model.Pen>> nests) {
        List<Model.Pen> all = new ArrayList<>();
        for (List<Model.Pen> pens : nests) {
            all.addAll(pens);
        }
        return all;
    }

    static String line(List<Model.Pen> pens) {
        List<String> words = new ArrayList<>();
        for (Model.Pen pen : pens) {
            words.add("" + pen.number + pen.feather + pen.date);
        }
        return String.join(" ", words);
    }
}
