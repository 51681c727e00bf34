/** Promises 44 to 46: undo and snapshots. */
public final class UndoTest {
    private interface Change {
        int make(PenNursery nursery);
    }

    private UndoTest() {
    }

    public static void main(String[] args) {
        everyChangeIsUndone();
        whatIsNoChange();
        eightLatest();
        undoneAndNewChanges();
        refusedChangesKeepTheHistory();
        savingAndRestoring();
        savedStateStays();
        Check.end();
    }

    private static PenNursery mixed() {
        PenNursery x = new PenNursery();
        for (int i = 0; i < 10; i++) {
            x.plant(i % 2, (char) ('a' + i % 3), 90 - 7 * i);
        }
        x.addInk('a', 5);
        x.addInk('b', 5);
        x.addInk('c', 5);
        return x;
    }

    private static void everyChangeIsUndone() {
        Change[] changes = {x -> x.plant(0, 'h', 1), x -> x.pick(0), x -> x.addInk('a', 9), x -> x.sharpen(0, 99),
            x -> x.blunt(9, 500), x -> x.uproot(3), x -> x.move(4, 3), x -> x.merge(0, 1), x -> x.reorder(1),
            x -> x.recall('a'), x -> Nursery.run(x, "pick 0;plant 0a@5;merge 0>1;recall b;move 0>2")};
        PenNursery z = mixed();
        z.undo();
        for (Change change : changes) {
            PenNursery x = mixed();
            String before = Nursery.state(x);
            change.make(x);
            String after = Nursery.state(x);
            Check.due("the change changes", before.equals(after), false);
            Check.due("undo", x.undo(), 7);
            Check.due("state after undo", Nursery.state(x), before);
            change.make(x);
            Check.due("the same change again", Nursery.state(x), after);
            Check.due("one more can be undone", x.undo(), 7);
        }
    }

    private static void whatIsNoChange() {
        PenNursery x = Nursery.planted(0, 1);
        x.save();
        x.writeNest(0);
        x.writeInk();
        x.type('p');
        Check.thrown("run", Nursery.ARGUMENT, x::run);
        x.isConsistent();
        x.penByRank(0, 0);
        Check.due("undo of the only change", x.undo(), 0);
        Check.due("pens", x.pens(), 0);
        Check.thrown("undo of no change", Nursery.STATE, x::undo);
        Check.due("the number is free again", x.plant(2, 'b', 3), 0);
    }

    private static void eightLatest() {
        PenNursery x = new PenNursery();
        String[] states = new String[19];
        for (int i = 0; i < 19; i++) {
            states[i] = Nursery.state(x);
            x.addInk('a', i + 1);
        }
        for (int i = 7; i >= 0; i--) {
            Check.due("undo", x.undo(), i);
            Check.due("state", Nursery.state(x), states[11 + i]);
        }
        Check.thrown("undo of the ninth", Nursery.STATE, x::undo);
        Check.due("nothing changed", Nursery.state(x), states[11]);
    }

    private static void undoneAndNewChanges() {
        PenNursery x = new PenNursery();
        for (int i = 1; i <= 10; i++) {
            x.addInk('a', 1);
        }
        Check.due("undo", x.undo(), 7);
        Check.due("undo", x.undo(), 6);
        x.addInk('b', 1);
        Check.due("undo of the new one", x.undo(), 6);
        Check.due("ink", x.ink('b'), 0);
        for (int i = 5; i >= 0; i--) {
            Check.due("undo of the old ones", x.undo(), i);
            Check.due("ink", x.ink('a'), 2 + i);
        }
        Check.thrown("no more", Nursery.STATE, x::undo);
        for (int i = 1; i <= 9; i++) {
            x.addInk('c', 1);
        }
        Check.due("eight again", x.undo(), 7);
        Check.due("ink", x.ink('c'), 8);
    }

    private static void refusedChangesKeepTheHistory() {
        PenNursery x = new PenNursery();
        for (int i = 1; i <= 12; i++) {
            x.addInk('a', 1);
        }
        for (int i = 0; i < 10; i++) {
            Check.thrown("pick", Nursery.ELEMENT, () -> x.pick(0));
            Check.thrown("run", Nursery.UNSUPPORTED, () -> Nursery.run(x, "ink a+9;pick 0"));
            Check.thrown("run", Nursery.ARGUMENT, () -> Nursery.run(x, "ink a+9;pick"));
        }
        for (int i = 7; i >= 0; i--) {
            Check.due("undo", x.undo(), i);
            Check.due("ink", x.ink('a'), 4 + i);
        }
    }

    private static void savingAndRestoring() {
        PenNursery x = new PenNursery();
        Check.thrown("restore", Nursery.STATE, x::restore);
        Check.due("save of nothing", x.save(), 0);
        x.plant(0, 'a', 5);
        Check.due("restore of nothing", x.restore(), 0);
        Check.thrown("undo after restore", Nursery.STATE, x::undo);
        PenNursery y = mixed();
        y.pick(0);
        String saved = Nursery.state(y);
        Check.due("save", y.save(), 9);
        Check.due("save keeps the history", y.undo(), 7);
        y.recall('a');
        y.merge(0, 1);
        Check.due("restore", y.restore(), 9);
        Check.due("state", Nursery.state(y), saved);
        Check.thrown("undo after restore", Nursery.STATE, y::undo);
        Check.due("numbers go on from the saved state", y.plant(0, 'a', 5), 10);
        Check.due("undo of what came after restore", y.undo(), 0);
        Check.due("state", Nursery.state(y), saved);
    }

    private static void savedStateStays() {
        PenNursery x = Nursery.planted(0, 1, 2);
        x.save();
        String saved = Nursery.state(x);
        for (int i = 0; i < 3; i++) {
            x.sharpen(0, 1);
            x.plant(3, 'h', 999);
            x.reorder(0);
            Check.due("restore", x.restore(), 2);
            Check.due("state", Nursery.state(x), saved);
        }
        x.uproot(0);
        Check.due("save in place of it", x.save(), 1);
        x.undo();
        Check.due("pens", x.pens(), 2);
        Check.due("the saved state is not undone", x.restore(), 1);
        Check.due("exists", x.exists(0), false);
    }
}
