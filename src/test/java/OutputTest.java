/** Promises 37 to 39: output. */
public final class OutputTest {
    private OutputTest() {
    }

    public static void main(String[] args) {
        writingNests();
        writingInk();
        lineIsReplaced();
        lineIsNoState();
        longestLine();
        Check.end();
    }

    private static void writingNests() {
        PenNursery x = new PenNursery();
        x.plant(0, 'a', 17);
        Check.due("writeNest", x.writeNest(0), 4);
        Check.due("line", Nursery.nest(x, 0), "0a17");
        x.plant(1, 'c', 0);
        x.plant(1, 'h', 999);
        x.plant(0, 'b', 5);
        x.plant(0, 'b', 9);
        Check.due("writeNest", x.writeNest(0), 12);
        Check.due("line", Nursery.nest(x, 0), "3b5 0a17 4b9");
        Check.due("line", Nursery.nest(x, 1), "1c0 2h999");
        Check.due("writeNest of an empty nest", x.writeNest(3), 0);
        Check.thrown("charAt of an empty line", Nursery.INDEX, () -> x.charAt(0));
        for (int nest : Nursery.NO_NESTS) {
            Check.thrown("writeNest " + nest, Nursery.INDEX, () -> x.writeNest(nest));
        }
    }

    private static void writingInk() {
        PenNursery x = new PenNursery();
        Check.due("writeInk without ink", x.writeInk(), 0);
        x.addInk('c', 120);
        Check.due("writeInk", x.writeInk(), 4);
        Check.due("line", Nursery.ink(x), "c120");
        x.addInk('a', 3);
        Check.due("writeInk", x.writeInk(), 7);
        Check.due("line", Nursery.ink(x), "a3,c120");
        x.addInk('h', 999);
        x.plant(0, 'c', 1);
        x.pick(0);
        Check.due("line", Nursery.ink(x), "a3,c119,h999");
        x.plant(0, 'a', 1);
        for (int i = 0; i < 3; i++) {
            x.plant(1, 'a', i);
            x.pick(1);
        }
        Check.due("a stock of 0 is not written", Nursery.ink(x), "c119,h999");
    }

    private static void lineIsReplaced() {
        PenNursery x = Nursery.planted(0, 1, 2);
        x.addInk('b', 7);
        Check.due("writeNest", x.writeNest(0), 7);
        Check.due("charAt", x.charAt(0), '0');
        Check.due("charAt", x.charAt(3), ' ');
        Check.due("charAt", x.charAt(6), '2');
        for (int index : new int[] {-1, 7, Integer.MIN_VALUE, Integer.MAX_VALUE}) {
            Check.thrown("charAt " + index, Nursery.INDEX, () -> x.charAt(index));
        }
        Check.due("writeInk", x.writeInk(), 2);
        Check.due("charAt", x.charAt(1), '7');
        Check.thrown("charAt behind the shorter line", Nursery.INDEX, () -> x.charAt(2));
        Check.thrown("a refused call", Nursery.INDEX, () -> x.writeNest(4));
        Check.due("the line stays", x.charAt(0), 'b');
    }

    private static void lineIsNoState() {
        PenNursery x = Nursery.planted(0, 1);
        x.save();
        x.writeNest(0);
        x.undo();
        Check.due("line after undo", Nursery.line(x, 3), "0a1");
        x.restore();
        Check.due("line after restore", Nursery.line(x, 3), "0a1");
        x.uproot(0);
        Check.due("line after a change", Nursery.line(x, 3), "0a1");
        Check.thrown("line after restore", Nursery.INDEX, () -> x.charAt(3));
    }

    private static void longestLine() {
        PenNursery x = new PenNursery();
        for (int i = 0; i < 100; i++) {
            x.plant(0, 'a', 999);
            x.uproot(i);
        }
        StringBuilder line = new StringBuilder();
        for (int i = 100; i < 124; i++) {
            x.plant(1, 'a', 999);
            line.append(i == 100 ? "" : " ").append(i).append("a999");
        }
        Check.due("writeNest of 24 pens", x.writeNest(1), 24 * 8 - 1);
        Check.due("line of 24 pens", Nursery.nest(x, 1), line.toString());
    }
}
