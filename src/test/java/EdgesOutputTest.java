/** Boundary cases of the promises 37 to 39: output. */
public final class EdgesOutputTest {
    private EdgesOutputTest() {
    }

    public static void main(String[] args) {
        writeNoNest();
        writeEmptyNest();
        writeNestReplaces();
        writeNestBlanks();
        writeLongestNest();
        writeNoInk();
        writeInkReplaces();
        writeInkCommas();
        charAtOfTheFirstLine();
        charAtOfTheEnds();
        charAtOfAnEmptyLine();
        Check.end();
    }

    // ---- promise 37

    private static void writeNoNest() {
        Edge.promise(37, "Throws `IndexOutOfBoundsException` if there is no such nest");
        Edge.due("nest 0", Nursery.planted(0, 5).writeNest(0), 3);
        Edge.due("nest 3", Nursery.planted(3, 5).writeNest(3), 3);
        Edge.refusesNumbers("nest", Edge.NO_NESTS, Nursery.INDEX, (x, nest) -> x.writeNest(nest));
    }

    private static void writeEmptyNest() {
        Edge.promise(37, "Returns the length of the line.");
        for (int nest = 0; nest < 4; nest++) {
            PenNursery x = Nursery.planted(nest, 5);
            Edge.due("one pen", x.writeNest(nest), 3);
            Edge.due("an empty nest", x.writeNest((nest + 1) % 4), 0);
            Edge.due("the line", Edge.line(x), ".");
        }
    }

    private static void writeNestReplaces() {
        Edge.promise(37, "which replaces its old content");
        PenNursery x = Nursery.planted(0, 17);
        x.plant(1, 'b', 5);
        x.addInk('a', 999);
        x.addInk('b', 999);
        x.writeInk();
        Edge.due("the ink", Edge.line(x), "a999,b999.");
        x.writeNest(0);
        Edge.due("a shorter line", Edge.line(x), "0a17.");
        x.writeNest(1);
        Edge.due("a still shorter line", Edge.line(x), "1b5.");
        x.writeNest(0);
        Edge.due("a longer line", Edge.line(x), "0a17.");
        x.writeNest(2);
        Edge.due("an empty line", Edge.line(x), ".");
        x.writeNest(2);
        Edge.due("an empty line again", Edge.line(x), ".");
    }

    private static void writeNestBlanks() {
        Edge.promise(37, "with a blank between two; for example \"3b5 0a17 4b9\"");
        PenNursery x = new PenNursery();
        x.plant(0, 'a', 17);
        x.plant(1, 'h', 0);
        x.plant(2, 'h', 999);
        x.plant(0, 'b', 5);
        x.plant(0, 'b', 9);
        Edge.due("three pens", x.writeNest(0), 12);
        Edge.due("the line", Edge.line(x), "3b5 0a17 4b9.");
        Edge.due("one pen with a date of 0: no blank", x.writeNest(1), 3);
        Edge.due("the line", Edge.line(x), "1h0.");
        Edge.due("one pen with a date of 999: no blank", x.writeNest(2), 5);
        Edge.due("the line", Edge.line(x), "2h999.");
        x.move(1, 2);
        Edge.due("two pens: one blank", x.writeNest(2), 9);
        Edge.due("the line", Edge.line(x), "1h0 2h999.");
    }

    private static void writeLongestNest() {
        Edge.promise(37, "for each index, in ascending order, the number of the pen, its feather and its date");
        PenNursery x = new PenNursery();
        StringBuilder line = new StringBuilder();
        for (int i = 0; i < 24; i++) {
            x.plant(3, 'h', 976 + i);
            line.append(i == 0 ? "" : " ").append(i).append('h').append(976 + i);
        }
        Edge.due("24 pens", x.writeNest(3), line.length());
        Edge.due("the line", Edge.line(x), line + ".");
        PenNursery y = new PenNursery();
        for (int i = 0; i < 76; i++) {
            y.plant(0, 'a', 999);
            y.uproot(i);
        }
        for (int i = 76; i < 100; i++) {
            y.plant(0, 'a', 999);
        }
        y.uproot(76);
        y.plant(0, 'a', 999);
        Edge.due("numbers of two and three digits", y.writeNest(0), 24 * 7);
        Edge.due("the last character", y.charAt(24 * 7 - 1), '9');
        Edge.thrown("behind it", Nursery.INDEX, () -> y.charAt(24 * 7));
    }

    // ---- promise 38

    private static void writeNoInk() {
        Edge.promise(38, "Returns the length of the line.");
        PenNursery x = new PenNursery();
        Edge.due("no ink", x.writeInk(), 0);
        Edge.due("the line", Edge.line(x), ".");
        for (char feather = 'a'; feather <= 'h'; feather++) {
            PenNursery one = new PenNursery();
            one.addInk(feather, 1);
            Edge.due("one drop", one.writeInk(), 2);
            Edge.due("the line", Edge.line(one), feather + "1.");
            one.addInk(feather, 998);
            Edge.due("a full stock", one.writeInk(), 4);
            Edge.due("the line", Edge.line(one), feather + "999.");
        }
    }

    private static void writeInkReplaces() {
        Edge.promise(38, "which replaces its old content");
        PenNursery x = Nursery.planted(0, 17, 18);
        x.writeNest(0);
        x.addInk('a', 10);
        x.writeInk();
        Edge.due("a shorter line", Edge.line(x), "a10.");
        x.pick(0);
        x.writeInk();
        Edge.due("a still shorter line", Edge.line(x), "a9.");
        x.writeInk();
        Edge.due("the same line again", Edge.line(x), "a9.");
        x.addInk('h', 999);
        x.writeInk();
        Edge.due("a longer line", Edge.line(x), "a9,h999.");
        for (int i = 0; i < 3; i++) {
            x.undo();
        }
        x.writeInk();
        Edge.due("an empty line", Edge.line(x), ".");
    }

    private static void writeInkCommas() {
        Edge.promise(38, "for each feather with a stock greater than 0, in the order of the alphabet");
        PenNursery x = new PenNursery();
        x.addInk('c', 120);
        x.addInk('a', 3);
        Edge.due("the document's example", x.writeInk(), 7);
        Edge.due("the line", Edge.line(x), "a3,c120.");
        StringBuilder line = new StringBuilder();
        for (char feather = 'h'; feather >= 'a'; feather--) {
            x.addInk(feather, 999);
            line.insert(0, feather + "999" + (feather == 'h' ? "" : ","));
        }
        Edge.due("all feathers", x.writeInk(), 8 * 5 - 1);
        Edge.due("the line", Edge.line(x), line + ".");
        PenNursery y = Nursery.planted(0, 1);
        y.addInk('a', 1);
        y.addInk('b', 2);
        y.pick(0);
        Edge.due("a stock of 0 at the beginning", y.writeInk(), 2);
        Edge.due("the line", Edge.line(y), "b2.");
        PenNursery z = new PenNursery();
        z.plant(0, 'h', 1);
        z.addInk('h', 1);
        z.addInk('b', 2);
        z.pick(0);
        Edge.due("a stock of 0 at the end", z.writeInk(), 2);
        Edge.due("the line", Edge.line(z), "b2.");
    }

    // ---- promise 39

    private static void charAtOfTheFirstLine() {
        Edge.promise(39, "which is initially empty");
        for (int index : new int[] {Edge.LEAST, -1, 0, 1, Edge.GREATEST}) {
            Edge.refused("charAt " + index, Nursery.INDEX, PenNursery::new, x -> x.charAt(index));
            Edge.refused("charAt after other calls " + index, Nursery.INDEX, Edge::full, x -> x.charAt(index));
        }
    }

    private static void charAtOfTheEnds() {
        Edge.promise(39, "Throws `IndexOutOfBoundsException` if the index is negative or not less than the length");
        PenNursery x = Edge.busy();
        Edge.due("the first character", x.charAt(0), '2');
        Edge.due("the last character", x.charAt(13), '5');
        Edge.due("the length", Edge.line(x).length() - 1, 14);
        Edge.refusesNumbers("charAt", new int[] {Edge.LEAST, -2, -1, 14, 15, 255, Edge.GREATEST}, Nursery.INDEX,
                (y, index) -> y.charAt(index));
        PenNursery one = Nursery.planted(0, 5);
        one.writeNest(0);
        Edge.due("the first character of three", one.charAt(0), '0');
        Edge.due("the last character of three", one.charAt(2), '5');
        Edge.thrown("behind the third one", Nursery.INDEX, () -> one.charAt(3));
        one.writeInk();
        Edge.thrown("the first one of none", Nursery.INDEX, () -> one.charAt(0));
    }

    private static void charAtOfAnEmptyLine() {
        Edge.promise(39, "Throws `IndexOutOfBoundsException` if the index is negative or not less than the length");
        for (int index : new int[] {Edge.LEAST, -1, 0, Edge.GREATEST}) {
            Edge.refused("the line of an empty nest, at " + index, Nursery.INDEX, () -> {
                PenNursery x = Edge.busy();
                x.writeNest(3);
                return x;
            }, x -> x.charAt(index));
        }
        PenNursery x = Edge.busy();
        String line = Edge.line(x);
        Edge.thrown("a refused write", Nursery.INDEX, () -> x.writeNest(4));
        Edge.due("the line stays", Edge.line(x), line);
        x.uproot(2);
        Edge.due("the line stays after a change", Edge.line(x), line);
    }
}
