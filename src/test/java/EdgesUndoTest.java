import java.util.ArrayDeque;
import java.util.Deque;

/** Boundary cases of the promises 44 to 46: undo and snapshots. */
public final class EdgesUndoTest {
    private EdgesUndoTest() {
    }

    public static void main(String[] args) {
        undoOfNothing();
        undoAfterRefusedCalls();
        undoUpToTheLimit();
        undoAroundTheLimit();
        undoOfTheLatestThatWasNotUndone();
        undoIsNoChange();
        undoAtTheLimitOfPens();
        undoOfARun();
        undoAfterFailedRuns();
        saveReturns();
        saveInPlaceOfTheOlderOne();
        saveKeepsWhatCanBeUndone();
        restoreOfNothing();
        restoreReturns();
        restoreStaysSaved();
        restoreLeavesNoChange();
        restoreAtTheLimitOfPens();
        undoAfterRestore();
        Check.end();
    }

    /** An object with as many changes, each of which adds one drop. */
    private static PenNursery drops(int changes) {
        PenNursery x = new PenNursery();
        for (int i = 0; i < changes; i++) {
            x.addInk('a', 1);
        }
        return x;
    }

    // ---- promise 44

    private static void undoOfNothing() {
        Edge.promise(44, "Throws `IllegalStateException` if no change can be undone");
        Edge.refused("a new object", Nursery.STATE, PenNursery::new, PenNursery::undo);
        for (int i = 1; i <= 9; i++) {
            int changes = i;
            Edge.refused("after all of " + changes, Nursery.STATE, () -> {
                PenNursery x = drops(changes);
                for (int undone = 0; undone < Math.min(8, changes); undone++) {
                    x.undo();
                }
                return x;
            }, PenNursery::undo);
        }
        Edge.refused("after restore", Nursery.STATE, () -> {
            PenNursery x = Edge.busy();
            x.restore();
            return x;
        }, PenNursery::undo);
        Edge.refused("only calls that are no changes", Nursery.STATE, () -> {
            PenNursery x = Edge.withText("order");
            x.save();
            x.writeInk();
            x.isConsistent();
            Check.answer(x::run);
            return x;
        }, PenNursery::undo);
        Edge.due("one change is enough", drops(1).undo(), 0);
    }

    private static void undoAfterRefusedCalls() {
        Edge.promise(44, "Undoes the latest change that was not undone.");
        Edge.Call[] refused = {x -> x.plant(4, 'a', 1), x -> x.pick(0), x -> x.addInk('a', 0), x -> x.sharpen(0, 1),
            x -> x.blunt(0, 1), x -> x.uproot(0), x -> x.move(0, 1), x -> x.merge(0, 0), x -> x.reorder(4),
            x -> x.recall('i'), x -> Nursery.run(x, "ink a+1;pick 0"), x -> Nursery.run(x, "ink a+1;pick"),
            x -> x.restore()};
        for (int i = 0; i < refused.length; i++) {
            Edge.Call call = refused[i];
            PenNursery x = drops(9);
            for (int times = 0; times < 10; times++) {
                Edge.due("refused, " + i, Check.answer(() -> call.on(x)).contains("Exception"), true);
            }
            for (int left = 7; left >= 0; left--) {
                Edge.due("undo after ten refused calls, " + i, x.undo(), left);
                Edge.due("ink", x.ink('a'), left + 1);
            }
            Edge.thrown("undo of the ninth", Nursery.STATE, x::undo);
        }
    }

    private static void undoUpToTheLimit() {
        Edge.promise(44, "Returns the number of changes that can still be undone.");
        for (int changes = 1; changes <= 28; changes++) {
            PenNursery x = drops(changes);
            int can = Math.min(8, changes);
            for (int left = can - 1; left >= 0; left--) {
                Edge.due("undo of " + changes, x.undo(), left);
                Edge.due("ink", x.ink('a'), changes - can + left);
            }
            Edge.thrown("one more of " + changes, Nursery.STATE, x::undo);
        }
    }

    private static void undoAroundTheLimit() {
        Edge.promise(44, "Undoes the latest change that was not undone.");
        for (int undone = 0; undone <= 8; undone++) {
            for (int added = 0; added <= 10; added++) {
                undoMixed(undone, added);
            }
        }
    }

    /** Twenty changes, some of them undone, and then some others: all of that undone again. */
    private static void undoMixed(int undone, int added) {
        Deque<String> before = new ArrayDeque<>();
        PenNursery x = new PenNursery();
        change(x, 'a', 20, before);
        for (int i = 0; i < undone; i++) {
            x.undo();
            before.pop();
        }
        change(x, 'b', added, before);
        while (!before.isEmpty()) {
            String want = before.pop();
            Edge.due("undo after " + undone + " undone and " + added + " new ones", x.undo(), before.size());
            Edge.due("a and b", x.ink('a') + " " + x.ink('b'), want);
        }
        Edge.thrown("one more after " + undone + " undone and " + added + " new ones", Nursery.STATE, x::undo);
    }

    private static void change(PenNursery x, char feather, int times, Deque<String> before) {
        for (int i = 0; i < times; i++) {
            before.push(x.ink('a') + " " + x.ink('b'));
            if (before.size() > 8) {
                before.removeLast();
            }
            x.addInk(feather, 1);
        }
    }

    private static void undoOfTheLatestThatWasNotUndone() {
        Edge.promise(44, "Undoes the latest change that was not undone.");
        PenNursery x = new PenNursery();
        x.plant(0, 'a', 5);
        x.plant(0, 'b', 4);
        x.sharpen(0, 5);
        Edge.due("nest", Nursery.nest(x, 0), "0a0 1b4");
        Edge.due("the third change", x.undo(), 2);
        Edge.due("nest", Nursery.nest(x, 0), "1b4 0a5");
        Edge.due("exchanges", x.exchanges(), 1L);
        Edge.due("the second change", x.undo(), 1);
        Edge.due("nest", Nursery.nest(x, 0), "0a5");
        Edge.due("exchanges", x.exchanges(), 0L);
        x.addInk('c', 7);
        Edge.due("a new change", x.undo(), 1);
        Edge.due("ink", x.ink('c'), 0);
        Edge.due("the first change", x.undo(), 0);
        Edge.due("pens", x.pens(), 0);
        Edge.due("the first number again", x.plant(1, 'h', 9), 0);
    }

    private static void undoIsNoChange() {
        Edge.promise(44, "Undoes the latest change that was not undone.");
        PenNursery x = drops(3);
        Edge.due("undo", x.undo(), 2);
        Edge.due("the undo is not undone", x.undo(), 1);
        Edge.due("ink", x.ink('a'), 1);
        Edge.due("undo", x.undo(), 0);
        Edge.thrown("undo of no change", Nursery.STATE, x::undo);
        Edge.due("ink", x.ink('a'), 0);
    }

    private static void undoAtTheLimitOfPens() {
        Edge.promise(44, "Undoes the latest change that was not undone.");
        PenNursery x = Edge.fullNest(2);
        String full = Nursery.state(x);
        Edge.thrown("one more", Nursery.STATE, () -> x.plant(0, 'a', 1));
        Edge.due("undo of the 24th", x.undo(), 7);
        Edge.due("pens", x.pens(), 23);
        Edge.due("the 24th again", x.plant(2, 'a', 230), 23);
        Edge.due("state", Nursery.state(x), full);
        x.recall('a');
        Edge.due("undo of a recall of all", x.undo(), 7);
        Edge.due("state", Nursery.state(x), full);
        Edge.thrown("one more", Nursery.STATE, () -> x.plant(0, 'a', 1));
    }

    private static void undoOfARun() {
        Edge.promise(44, "Undoes the latest change that was not undone.");
        PenNursery x = Edge.quiet();
        String before = Nursery.state(x);
        Edge.due("run", Nursery.run(x, "pick 0;order 1;ink a+9;merge 2>3;recall b;plant 0h@9"), 6);
        Edge.due("all six commands at once", x.undo(), 7);
        Edge.due("state", Nursery.state(x), before);
        PenNursery y = new PenNursery();
        for (int i = 0; i < 9; i++) {
            Nursery.run(y, "ink a+1;ink a+1");
        }
        for (int left = 7; left >= 0; left--) {
            Edge.due("undo of a run", y.undo(), left);
            Edge.due("ink", y.ink('a'), 2 * left + 2);
        }
        Edge.thrown("the ninth run", Nursery.STATE, y::undo);
    }

    private static void undoAfterFailedRuns() {
        Edge.promise(44, "Throws `IllegalStateException` if no change can be undone");
        PenNursery x = new PenNursery();
        Edge.thrown("run", Nursery.UNSUPPORTED, () -> Nursery.run(x, "ink a+1;ink a+1;pick 0"));
        Edge.thrown("run", Nursery.ARGUMENT, () -> Nursery.run(x, "ink a+1;ink a+1;pick"));
        Edge.thrown("undo of runs that failed", Nursery.STATE, x::undo);
        Edge.due("ink", x.ink('a'), 0);
        Edge.due("failedCommand", x.failedCommand(), 2);
        Edge.due("errorPosition", x.errorPosition(), 20);
    }

    // ---- promise 45

    private static void saveReturns() {
        Edge.promise(45, "Returns the number of pens.");
        PenNursery x = new PenNursery();
        Edge.due("no pens", x.save(), 0);
        for (int i = 0; i < 24; i++) {
            x.plant(i % 4, 'a', 5);
            Edge.due("save", x.save(), i + 1);
        }
        x.recall('a');
        Edge.due("no pens again", x.save(), 0);
    }

    private static void saveInPlaceOfTheOlderOne() {
        Edge.promise(45, "Saves the state in place of the state that was saved before.");
        PenNursery x = Nursery.planted(0, 5, 6);
        x.save();
        x.uproot(0);
        String second = Nursery.state(x);
        x.save();
        x.uproot(1);
        Edge.due("restore", x.restore(), 1);
        Edge.due("the second state", Nursery.state(x), second);
        Edge.due("restore again", x.restore(), 1);
        Edge.due("still the second state", Nursery.state(x), second);
        x.recall('a');
        x.save();
        Edge.due("a saved state without pens", x.restore(), 0);
    }

    private static void saveKeepsWhatCanBeUndone() {
        Edge.promise(45, "Saves the state in place of the state that was saved before.");
        PenNursery x = drops(9);
        for (int i = 0; i < 10; i++) {
            Edge.due("save", x.save(), 0);
        }
        for (int left = 7; left >= 0; left--) {
            Edge.due("undo", x.undo(), left);
            Edge.due("save between", x.save(), 0);
        }
        Edge.thrown("undo", Nursery.STATE, x::undo);
        Edge.due("ink", x.ink('a'), 1);
    }

    // ---- promise 46

    private static void restoreOfNothing() {
        Edge.promise(46, "Throws `IllegalStateException` if no state was saved");
        Edge.refused("a new object", Nursery.STATE, PenNursery::new, PenNursery::restore);
        Edge.refused("an object with pens and changes", Nursery.STATE, Edge::full, PenNursery::restore);
        Edge.refused("an object with text", Nursery.STATE, () -> Edge.withText("order 0"), PenNursery::restore);
        Edge.refused("after undo", Nursery.STATE, () -> {
            PenNursery x = drops(9);
            x.undo();
            return x;
        }, PenNursery::restore);
        PenNursery x = new PenNursery();
        x.save();
        Edge.due("the state of a new object was saved", x.restore(), 0);
    }

    private static void restoreReturns() {
        Edge.promise(46, "Returns the number of pens.");
        PenNursery x = new PenNursery();
        for (int pens = 0; pens <= 24; pens++) {
            x.save();
            if (pens < 24) {
                x.plant(3, 'a', 5);
            } else {
                x.recall('a');
            }
            Edge.due("restore", x.restore(), pens);
            Edge.due("pens", x.pens(), pens);
            Edge.due("a number that is free again", x.exists(pens), false);
            if (pens < 24) {
                Edge.due("the same number", x.plant(3, 'a', 5), pens);
            }
        }
    }

    private static void restoreStaysSaved() {
        Edge.promise(46, "Restores the saved state, which stays saved.");
        Edge.Call[] changes = {x -> x.plant(0, 'h', 0), x -> x.pick(0), x -> x.addInk('a', 999), x -> x.sharpen(5, 999),
            x -> x.blunt(6, 999), x -> x.uproot(3), x -> x.move(2, 3), x -> x.merge(0, 2), x -> x.reorder(0),
            x -> x.recall('a'), x -> Nursery.run(x, "merge 0>1;merge 2>1;ink d+7;pick 1"), x -> x.restore()};
        String saved = Nursery.state(Edge.quiet());
        for (int i = 0; i < changes.length; i++) {
            PenNursery x = Edge.quiet();
            x.save();
            for (int times = 0; times < 3; times++) {
                Check.answer(() -> x.restore());
                changes[i].on(x);
                Edge.due("restore after change " + i, x.restore(), 6);
                Edge.due("state after change " + i, Nursery.state(x), saved);
            }
        }
    }

    private static void restoreLeavesNoChange() {
        Edge.promise(46, "Afterwards no change can be undone.");
        for (int changes = 0; changes <= 10; changes++) {
            PenNursery x = drops(changes);
            x.save();
            x.addInk('b', 1);
            Edge.due("restore", x.restore(), 0);
            Edge.thrown("undo after restore, " + changes, Nursery.STATE, x::undo);
            Edge.due("ink", x.ink('a') + " " + x.ink('b'), changes + " 0");
        }
    }

    private static void restoreAtTheLimitOfPens() {
        Edge.promise(46, "Restores the saved state");
        PenNursery x = Edge.full();
        String full = Nursery.state(x);
        Edge.due("save", x.save(), 24);
        Nursery.run(x, "recall a;recall b;merge 0>3;merge 2>3");
        Edge.due("restore", x.restore(), 24);
        Edge.due("state", Nursery.state(x), full);
        Edge.thrown("one more", Nursery.STATE, () -> x.plant(0, 'a', 1));
        PenNursery y = new PenNursery();
        y.save();
        for (int i = 0; i < 24; i++) {
            y.plant(i % 4, 'a', 5);
        }
        Edge.due("restore of no pens", y.restore(), 0);
        for (int i = 0; i < 24; i++) {
            Edge.due("room for 24", y.plant(1, 'a', 5), i);
        }
        Edge.thrown("one more", Nursery.STATE, () -> y.plant(0, 'a', 1));
    }

    private static void undoAfterRestore() {
        Edge.promise(46, "Afterwards no change can be undone.");
        PenNursery x = drops(9);
        x.save();
        x.restore();
        for (int i = 0; i < 9; i++) {
            x.addInk('b', 1);
        }
        for (int left = 7; left >= 0; left--) {
            Edge.due("only what came after restore", x.undo(), left);
            Edge.due("ink", x.ink('a') + " " + x.ink('b'), "9 " + (left + 1));
        }
        Edge.thrown("one more", Nursery.STATE, x::undo);
        x.restore();
        x.addInk('c', 1);
        Edge.due("one change after a second restore", x.undo(), 0);
        Edge.thrown("one more", Nursery.STATE, x::undo);
        Edge.due("ink", x.ink('a') + " " + x.ink('b') + " " + x.ink('c'), "9 0 0");
    }
}
