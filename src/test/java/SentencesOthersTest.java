import java.util.ArrayList;
import java.util.List;

/** The ordinary sentences of the promises 32 to 46, in many states, one test for each. */
public final class SentencesOthersTest {
    private SentencesOthersTest() {
    }

    public static void main(String[] args) {
        picked();
        exchanges();
        meanDate();
        pickedShare();
        isConsistent();
        writeNest();
        writeNestExample();
        writeInk();
        writeInkExample();
        charAt();
        type();
        run();
        errorPosition();
        failedCommand();
        undo();
        saveAndRestore();
        Check.end();
    }

    // ---- promises 32 to 36

    private static void picked() {
        Edge.promise(32, "Returns the number of pens.");
        PenNursery x = Edge.full();
        for (int i = 1; i <= 12; i++) {
            x.pick(i % 4);
            Edge.due("picked", x.picked(), i);
            x.uproot(x.penAt(i % 4, 0));
            Edge.due("not uprooted", x.picked(), i);
        }
        Edge.due("pens", x.pens(), 0);
    }

    private static void exchanges() {
        Edge.promise(33, "Returns the number of exchanges.");
        for (int seed = 0; seed < 20; seed++) {
            Dice dice = new Dice(seed);
            PenNursery x = new PenNursery();
            Model model = new Model();
            for (int i = 0; i < 24; i++) {
                int date = dice.below(1000);
                x.plant(i % 2, 'a', date);
                model.plant(i % 2, 'a', date);
                Edge.due("after plant", x.exchanges(), model.world.exchanges);
            }
            for (int i = 0; i < 24; i++) {
                x.uproot(i);
                model.uproot(i);
                Edge.due("after uproot", x.exchanges(), model.world.exchanges);
            }
        }
    }

    private static void meanDate() {
        Edge.promise(34, "Returns the mean date of all pens: the sum of the dates divided by the number of pens, both"
                + " converted to double.");
        Sample.everywhere((x, nests) -> {
            int sum = 0;
            for (Model.Pen pen : Sample.all(nests)) {
                sum += pen.date;
            }
            if (x.pens() > 0) {
                Edge.due("meanDate", x.meanDate(), (double) sum / (double) x.pens());
            } else {
                Edge.thrown("meanDate", Nursery.ARITHMETIC, x::meanDate);
            }
        });
    }

    private static void pickedShare() {
        Edge.promise(35, "Returns the quotient of the number of pens that were picked and the number of pens that were"
                + " planted, both converted to float.");
        PenNursery x = new PenNursery();
        x.addInk('a', 999);
        for (int planted = 1; planted <= 60; planted++) {
            x.plant(0, 'a', planted);
            if (planted % 3 != 0) {
                x.pick(0);
            } else {
                x.uproot(x.penAt(0, 0));
            }
            Edge.due("pickedShare", x.pickedShare(), (float) (planted - planted / 3) / (float) planted);
        }
    }

    private static void isConsistent() {
        Edge.promise(36, "Checks the invariants: in every nest, no pen is sharper than the pen at its parent, both ways"
                + " of finding pens by ranks agree for all ranks, and both ways of counting pens agree for the numbers"
                + " 0, 100, 200 and so on up to 1000.");
        Sample.everywhere((x, nests) -> {
            Edge.due("isConsistent", x.isConsistent(), true);
            for (int nest = 0; nest < 4; nest++) {
                Edge.due("it only checks", x.size(nest), nests.get(nest).size());
            }
        });
    }

    // ---- promises 37 to 39

    private static void writeNest() {
        Edge.promise(37, "Writes a nest to the output line, which replaces its old content: for each index, in ascending"
                + " order, the number of the pen, its feather and its date, with a blank between two;");
        for (int number = 0; number < Sample.COUNT; number++) {
            PenNursery x = Sample.make(number);
            List<String> lines = new ArrayList<>();
            for (int nest = 0; nest < 4; nest++) {
                List<String> words = new ArrayList<>();
                for (int i = 0; i < x.size(nest); i++) {
                    int pen = x.penAt(nest, i);
                    words.add("" + pen + x.feather(pen) + x.date(pen));
                }
                lines.add(String.join(" ", words));
            }
            for (int nest = 0; nest < 4; nest++) {
                Edge.due("length", x.writeNest(nest), lines.get(nest).length());
                Edge.due("line", Edge.line(x), lines.get(nest) + ".");
            }
        }
    }

    private static void writeNestExample() {
        Edge.promise(37, "for example \"3b5 0a17 4b9\"");
        PenNursery x = Nursery.planted(0, 17);
        x.plant(1, 'd', 1);
        x.plant(1, 'd', 2);
        x.plant(0, 'b', 5);
        x.plant(0, 'b', 9);
        Edge.due("length", x.writeNest(0), 12);
        Edge.due("line", Edge.line(x), "3b5 0a17 4b9.");
    }

    private static void writeInk() {
        Edge.promise(38, "Writes the ink to the output line, which replaces its old content: for each feather with a"
                + " stock greater than 0, in the order of the alphabet, the feather and the stock, with a comma between"
                + " two;");
        for (int number = 0; number < Sample.COUNT; number++) {
            PenNursery x = Sample.make(number);
            List<String> words = new ArrayList<>();
            for (char feather = 'a'; feather <= 'h'; feather++) {
                if (x.ink(feather) > 0) {
                    words.add("" + feather + x.ink(feather));
                }
            }
            String line = String.join(",", words);
            x.writeNest(0);
            Edge.due("length", x.writeInk(), line.length());
            Edge.due("line", Edge.line(x), line + ".");
        }
    }

    private static void writeInkExample() {
        Edge.promise(38, "for example \"a3,c120\"");
        PenNursery x = new PenNursery();
        x.addInk('c', 120);
        x.addInk('a', 3);
        Edge.due("length", x.writeInk(), 7);
        Edge.due("line", Edge.line(x), "a3,c120.");
    }

    private static void charAt() {
        Edge.promise(39, "Returns a character of the output line, which is initially empty.");
        PenNursery x = new PenNursery();
        Edge.thrown("initially", Nursery.INDEX, () -> x.charAt(0));
        x.plant(2, 'f', 345);
        x.plant(2, 'g', 678);
        Edge.thrown("before it is written", Nursery.INDEX, () -> x.charAt(0));
        x.writeNest(2);
        String line = "0f345 1g678";
        for (int i = line.length() - 1; i >= 0; i--) {
            Edge.due("charAt " + i, x.charAt(i), line.charAt(i));
        }
        Edge.thrown("behind it", Nursery.INDEX, () -> x.charAt(line.length()));
    }

    // ---- promises 40 to 43

    private static void type() {
        Edge.promise(40, "Appends a character to the program buffer.");
        PenNursery x = new PenNursery();
        String text = "plant 2d@31;ink d+5;pick 2";
        for (int i = 0; i < text.length(); i++) {
            Edge.due("type", x.type(text.charAt(i)), i + 1);
        }
        Edge.due("nothing is executed yet", x.pens() + x.ink('d'), 0);
        Edge.due("run", x.run(), 3);
        Edge.due("picked", x.picked(), 1);
        Edge.due("ink", x.ink('d'), 4);
    }

    private static void run() {
        Edge.promise(41, "Parses the program buffer and executes the commands in order, either all of them or, if one of"
                + " them fails, none.");
        for (int number = 1; number < Sample.COUNT; number++) {
            PenNursery x = Sample.make(number);
            String before = Nursery.state(x);
            Edge.thrown("the last one fails", Nursery.UNSUPPORTED,
                    () -> Nursery.run(x, "ink b+9;merge 0>1;order 2;recall c;pick 9"));
            Edge.due("none", Nursery.state(x), before);
            Edge.due("failedCommand", x.failedCommand(), 4);
            PenNursery called = Sample.make(number);
            called.addInk('b', 9);
            called.merge(0, 1);
            called.reorder(2);
            called.recall('c');
            Edge.due("run", Nursery.run(x, "ink b+9;merge 0>1;order 2;recall c"), 4);
            Edge.due("all", Nursery.state(x), Nursery.state(called));
        }
    }

    private static void errorPosition() {
        Edge.promise(42, "Returns the recorded error position of the latest text that was not a program.");
        PenNursery x = new PenNursery();
        String[] texts = {"plan", "ink a+1;y", "move 0<3", "recall a,order 0", "order 0;"};
        int[] positions = {4, 8, 6, 8, 8};
        for (int i = 0; i < texts.length; i++) {
            String text = texts[i];
            Edge.thrown("run of " + text, Nursery.ARGUMENT, () -> Nursery.run(x, text));
            Edge.due("errorPosition of " + text, x.errorPosition(), positions[i]);
            Edge.due("and again", x.errorPosition(), positions[i]);
        }
    }

    private static void failedCommand() {
        Edge.promise(43, "Returns the recorded number of the latest command that failed in a program.");
        PenNursery x = new PenNursery();
        String[] texts = {"pick 0", "ink a+1;pick 0", "order 0;order 1;move 0>1;order 2", "ink a+0;pick 0"};
        int[] commands = {0, 1, 2, 0};
        for (int i = 0; i < texts.length; i++) {
            String text = texts[i];
            Edge.thrown("run of " + text, Nursery.UNSUPPORTED, () -> Nursery.run(x, text));
            Edge.due("failedCommand of " + text, x.failedCommand(), commands[i]);
            Edge.due("and again", x.failedCommand(), commands[i]);
        }
    }

    // ---- promises 44 to 46

    private static void undo() {
        Edge.promise(44, "Undoes the latest change that was not undone.");
        List<Edge.Call> changes = List.of(x -> x.pick(1), x -> x.blunt(2, 400), x -> x.merge(3, 0), x -> x.reorder(0),
                x -> x.move(7, 2), x -> x.recall('b'), x -> x.sharpen(4, 7), x -> Nursery.run(x, "pick 2;uproot 0"));
        for (int undone = 1; undone <= changes.size(); undone++) {
            PenNursery all = Edge.full();
            PenNursery some = Edge.full();
            for (int i = 0; i < changes.size(); i++) {
                changes.get(i).on(all);
                if (i < changes.size() - undone) {
                    changes.get(i).on(some);
                }
            }
            for (int i = 1; i <= undone; i++) {
                Edge.due("undo", all.undo(), 8 - i);
            }
            Edge.due("the state after " + undone, Nursery.state(all), Nursery.state(some));
        }
    }

    private static void saveAndRestore() {
        Edge.promise(46, "Restores the saved state, which stays saved. Afterwards no change can be undone.");
        for (int number = 0; number < Sample.COUNT; number++) {
            PenNursery x = Sample.make(number);
            String saved = Nursery.state(x);
            int pens = x.pens();
            Edge.due("save", x.save(), pens);
            for (int i = 0; i < 2; i++) {
                x.addInk('f', 3);
                x.merge(0, 1);
                x.recall('a');
                Edge.due("restore", x.restore(), pens);
                Edge.due("the state", Nursery.state(x), saved);
                Edge.thrown("undo", Nursery.STATE, x::undo);
            }
        }
    }
}
