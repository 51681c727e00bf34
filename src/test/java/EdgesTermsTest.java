/** Boundary cases of the document's Terms, but for programs: those are in EdgesProgramsTest. */
public final class EdgesTermsTest {
    private static final char LEAST_SIGN = 0;

    private EdgesTermsTest() {
    }

    public static void main(String[] args) {
        mostCalls();
        mostPens();
        roomAfterTheLimit();
        mostPensByPrograms();
        numbers();
        numbersAreNotUsedAgain();
        numbersThatAreUndone();
        feathersAndDates();
        sharper();
        nests();
        parents();
        siftingUp();
        siftingDown();
        siftingDownAtTheEnd();
        takingOutTheGreatestIndex();
        takingOutSiftsUp();
        takingOutSiftsDown();
        ordering();
        stocks();
        refusedCallsChangeNothing();
        refusedRunsMakeARecord();
        theFirstListedException();
        theFirstListedExceptionOfRun();
        eightLatestChanges();
        everyChangeCountsOnce();
        whatIsNoChange();
        whatIsNotInTheState();
        whatIsInTheState();
        Check.end();
    }

    private static void mostCalls() {
        Edge.whatItIs("An object is used for at most 512 calls after it has been made");
        PenNursery x = new PenNursery();
        for (int call = 1; call <= 512; call++) {
            if (call % 25 == 0) {
                Edge.due("call " + call, x.recall('h'), 24);
            } else {
                Edge.due("call " + call, x.plant(3, 'h', 999 - call), call - 1 - call / 25);
            }
        }
        PenNursery y = new PenNursery();
        for (int call = 1; call < 512; call++) {
            y.addInk('a', 1);
        }
        Edge.due("call 512", y.undo(), 7);
        PenNursery z = new PenNursery();
        for (int call = 1; call < 512; call += 8) {
            Nursery.type(z, "order 0");
            Edge.due("call " + (call + 7), z.run(), 1);
        }
    }

    private static void mostPens() {
        Edge.terms("There are at most 24 pens.");
        PenNursery x = new PenNursery();
        for (int i = 0; i < 24; i++) {
            Edge.due("plant " + i, x.plant(i % 4, 'a', i), i);
        }
        Edge.due("pens", x.pens(), 24);
        for (int i = 0; i < 4; i++) {
            int nest = i;
            Edge.refused("one more in nest " + nest, Nursery.STATE, Edge::full, y -> y.plant(nest, 'a', 0));
            Edge.refused("one more in the full nest " + nest, Nursery.STATE, () -> Edge.fullNest(nest),
                    y -> y.plant(nest, 'h', 999));
            Edge.refused("one more beside the full nest", Nursery.STATE, () -> Edge.fullNest((nest + 1) % 4),
                    y -> y.plant(nest, 'h', 999));
        }
    }

    private static void roomAfterTheLimit() {
        Edge.terms("There are at most 24 pens.");
        roomAfter("uproot", 1, x -> x.uproot(23));
        roomAfter("pick", 1, x -> x.pick(3));
        roomAfter("recall", 3, x -> x.recall('h'));
        roomAfter("a run", 2, x -> Nursery.run(x, "pick 0;uproot 1"));
        roomAfter("move", 0, x -> x.move(0, 3));
        roomAfter("merge", 0, x -> x.merge(0, 3));
        roomAfter("reorder", 0, x -> x.reorder(2));
    }

    private static void roomAfter(String what, int room, Edge.Call call) {
        PenNursery x = Edge.full();
        call.on(x);
        for (int i = 0; i < room; i++) {
            Edge.due("plant after " + what, x.plant(3, 'c', 9), 24 + i);
        }
        Edge.thrown("one more after " + what, Nursery.STATE, () -> x.plant(3, 'c', 9));
        Edge.due("pens after " + what, x.pens(), 24);
    }

    private static void mostPensByPrograms() {
        Edge.terms("There are at most 24 pens.");
        PenNursery x = Edge.full();
        x.uproot(0);
        Edge.due("run up to 24 pens", Nursery.run(x, "plant 0a@1"), 1);
        Edge.due("pens", x.pens(), 24);
        Edge.refusedRun("plant 0a@1", Nursery.UNSUPPORTED, Edge::full);
        Edge.refusedRun("uproot 5;plant 0a@1;plant 0a@1", Nursery.UNSUPPORTED, Edge::full);
        PenNursery y = Edge.full();
        Edge.due("run with room", Nursery.run(y, "pick 1;plant 1h@0;uproot 24;plant 1h@0"), 4);
        Edge.due("number", y.exists(25), true);
        Edge.due("pens", y.pens(), 24);
    }

    private static void numbers() {
        Edge.terms("the numbers are consecutive, begin with 0");
        PenNursery x = new PenNursery();
        Edge.thrown("plant", Nursery.INDEX, () -> x.plant(4, 'a', 0));
        Edge.thrown("plant", Nursery.ARGUMENT, () -> x.plant(0, 'i', 0));
        Edge.thrown("run", Nursery.UNSUPPORTED, () -> Nursery.run(x, "plant 0a@1;pick 1"));
        Edge.due("the first one after refused calls", x.plant(3, 'h', 999), 0);
        Edge.due("the second one", x.plant(0, 'a', 0), 1);
        Edge.due("run", Nursery.run(x, "plant 1b@1;plant 2c@2"), 2);
        Edge.due("the third one, by a program", x.penAt(1, 0), 2);
        Edge.due("the fourth one, by a program", x.penAt(2, 0), 3);
        Edge.due("the fifth one", x.plant(0, 'a', 0), 4);
    }

    private static void numbersAreNotUsedAgain() {
        Edge.terms("are not used again");
        PenNursery x = new PenNursery();
        for (int i = 0; i < 100; i++) {
            Edge.due("plant the only pen", x.plant(0, 'a', 5), i);
            Edge.due("uproot it", x.uproot(i), 5);
        }
        x.addInk('a', 1);
        x.plant(0, 'a', 5);
        Edge.due("pick", x.pick(0), 100);
        Edge.due("after a pick", x.plant(0, 'a', 5), 101);
        Edge.due("recall", x.recall('a'), 1);
        Edge.due("after a recall", x.plant(0, 'a', 5), 102);
        Edge.due("run", Nursery.run(x, "plant 0a@5;uproot 103"), 2);
        Edge.due("after a program", x.plant(0, 'a', 5), 104);
        for (int i = 0; i < 102; i++) {
            Edge.due("exists " + i, x.exists(i), false);
        }
    }

    private static void numbersThatAreUndone() {
        Edge.terms("The state that is undone, saved and restored consists of everything");
        PenNursery x = new PenNursery();
        x.plant(0, 'a', 5);
        x.save();
        x.plant(0, 'b', 6);
        x.undo();
        Edge.due("the number of the plant that was undone", x.plant(1, 'c', 7), 1);
        x.uproot(1);
        Edge.due("the next number after uproot", x.plant(1, 'd', 8), 2);
        x.restore();
        Edge.due("the number after restore", x.plant(2, 'e', 9), 1);
    }

    private static void feathersAndDates() {
        Edge.terms("A pen has a feather, which is a letter from a to h, and a date from 0 to 999.");
        PenNursery x = new PenNursery();
        for (char feather = 'a'; feather <= 'h'; feather++) {
            int low = x.plant(0, feather, 0);
            int high = x.plant(3, feather, 999);
            Edge.due("feather", x.feather(low), feather);
            Edge.due("feather", x.feather(high), feather);
            Edge.due("date", x.date(low), 0);
            Edge.due("date", x.date(high), 999);
        }
    }

    private static void sharper() {
        Edge.terms("A pen is sharper than another one if its date is smaller,"
                + " or if both dates are equal and its number is smaller.");
        Edge.due("a smaller date", Nursery.nest(Nursery.planted(0, 6, 5), 0), "1a5 0a6");
        Edge.due("equal dates", Nursery.nest(Nursery.planted(0, 5, 5), 0), "0a5 1a5");
        Edge.due("a greater date", Nursery.nest(Nursery.planted(0, 5, 6), 0), "0a5 1a6");
        Edge.due("0 and 999", Nursery.nest(Nursery.planted(0, 999, 0), 0), "1a0 0a999");
        PenNursery x = Nursery.planted(0, 5, 5);
        x.move(0, 1);
        x.move(0, 0);
        Edge.due("equal dates, the smaller number comes later", Nursery.nest(x, 0), "0a5 1a5");
        Edge.due("rank", x.rankOf(1), 1);
        Edge.due("rank", x.rankOf(0), 0);
    }

    private static void nests() {
        Edge.terms("There are the nests 0 to 3.");
        PenNursery x = new PenNursery();
        for (int nest = 0; nest < 4; nest++) {
            Edge.due("plant", x.plant(nest, 'a', nest), nest);
            Edge.due("nestOf", x.nestOf(nest), nest);
            Edge.due("size", x.size(nest), 1);
        }
        Edge.thrown("size(-1)", Nursery.INDEX, () -> x.size(-1));
        Edge.thrown("size(4)", Nursery.INDEX, () -> x.size(4));
    }

    private static void parents() {
        Edge.terms("the parent of the index i greater than 0 is the index (i - 1) / 2");
        PenNursery x = Edge.fullNest(1);
        int[] parents = {0, 0, 1, 1, 2, 2, 3, 3, 4, 4, 5, 5, 6, 6, 7, 7, 8, 8, 9, 9, 10, 10, 11};
        for (int i = 1; i < 24; i++) {
            Edge.due("index of " + i, x.indexOf(i), i);
            Edge.due("parent of " + i, x.parentOf(i), parents[i - 1]);
        }
    }

    private static void siftingUp() {
        Edge.terms("as long as its index is greater than 0 and it is sharper than the pen at the parent,"
                + " exchange both");
        PenNursery x = Edge.fullNest(0);
        x.uproot(23);
        Edge.due("no exchange yet", x.exchanges(), 0L);
        Edge.due("plant", x.plant(0, 'b', 0), 24);
        Edge.due("below the index 0, whose date is the same one", x.indexOf(24), 2);
        Edge.due("three exchanges", x.exchanges(), 3L);
        Edge.due("the way went by 11", x.indexOf(11), 23);
        Edge.due("and by 5", x.indexOf(5), 11);
        Edge.due("and by 2", x.indexOf(2), 5);
        PenNursery y = Edge.fullNest(0);
        y.blunt(0, 1);
        Edge.due("up to the index 0 and no further", y.sharpen(23, 999), 0);
        Edge.due("four exchanges", y.exchanges(), 4L);
        Edge.due("sharpen at the index 0", y.sharpen(23, 999), 0);
        Edge.due("no exchange", y.exchanges(), 4L);
    }

    private static void siftingDown() {
        Edge.terms("as long as a pen at one of its children is sharper than it,"
                + " exchange it with the sharper one of the pens at its children");
        PenNursery x = Nursery.planted(0, 1, 3, 2);
        Edge.due("the right child is the sharper one", x.blunt(0, 9), 2);
        PenNursery y = Nursery.planted(0, 1, 2, 3);
        Edge.due("the left child is the sharper one", y.blunt(0, 9), 1);
        PenNursery z = Nursery.planted(0, 1, 2, 2);
        Edge.due("of equal dates the smaller number", z.blunt(0, 9), 1);
        Edge.due("only the left child is sharper", Nursery.planted(0, 1, 3, 9).blunt(0, 3), 1);
        Edge.due("only the right child is sharper", Nursery.planted(0, 1, 9, 3).blunt(0, 3), 2);
        Edge.due("no child is sharper", Nursery.planted(0, 1, 4, 4).blunt(0, 3), 0);
        PenNursery full = Edge.fullNest(2);
        Edge.due("four levels down, first to the left", full.blunt(0, 999), 15);
        Edge.due("four exchanges", full.exchanges(), 4L);
        Edge.due("the last inner index has one child, not sharper", full.blunt(11, 120), 11);
        Edge.due("the last inner index has one child, sharper", full.blunt(11, 1), 23);
        Edge.due("one exchange", full.exchanges(), 5L);
    }

    private static void siftingDownAtTheEnd() {
        Edge.terms("as long as a pen at one of its children is sharper than it,"
                + " exchange it with the sharper one of the pens at its children");
        PenNursery one = Nursery.planted(0, 5);
        Edge.due("no child", one.blunt(0, 999), 0);
        PenNursery two = Nursery.planted(0, 5, 6);
        Edge.due("a left child alone, not sharper", two.blunt(0, 1), 0);
        Edge.due("a left child alone, sharper", two.blunt(0, 1), 1);
        // What stood behind the last index before must not be taken for a child.
        PenNursery gone = Nursery.planted(0, 5, 7, 6);
        gone.uproot(2);
        Edge.due("the right child is gone", gone.blunt(0, 2), 0);
        gone.uproot(1);
        Edge.due("both children are gone", gone.blunt(0, 999), 0);
    }

    private static void takingOutTheGreatestIndex() {
        Edge.terms("the pen with the greatest index is put at the index of the pen that is taken out,"
                + " unless it is this pen itself");
        PenNursery one = Nursery.planted(1, 5);
        Edge.due("uproot the only one", one.uproot(0), 5);
        Edge.due("size", one.size(1), 0);
        Edge.due("exchanges", one.exchanges(), 0L);
        PenNursery two = Nursery.planted(1, 5, 6);
        Edge.due("uproot the greatest index", two.uproot(1), 6);
        Edge.due("nest", Nursery.nest(two, 1), "0a5");
        two = Nursery.planted(1, 5, 6);
        Edge.due("uproot the index below it", two.uproot(0), 5);
        Edge.due("nest", Nursery.nest(two, 1), "1a6");
        PenNursery full = Edge.fullNest(3);
        Edge.due("uproot the index 23", full.uproot(23), 230);
        Edge.due("size", full.size(3), 23);
        Edge.due("the pen at the index 22", full.penAt(3, 22), 22);
        Edge.due("exchanges", full.exchanges(), 0L);
    }

    private static void takingOutSiftsUp() {
        Edge.terms("it is sifted up, and then sifted down");
        PenNursery x = Nursery.planted(0, 1, 50, 2, 60, 70, 3, 4, 61, 62);
        x.uproot(8);
        x.uproot(7);
        Edge.due("uproot on the other side", x.uproot(4), 70);
        Edge.due("up by one", Nursery.nest(x, 0), "0a1 6a4 2a2 3a60 1a50 5a3");
        Edge.due("one exchange", x.exchanges(), 1L);
        PenNursery y = Nursery.planted(0, 1, 50, 2, 60, 70, 3, 50);
        y.uproot(3);
        Edge.due("an equal date and a greater number stay", Nursery.nest(y, 0), "0a1 1a50 2a2 6a50 4a70 5a3");
        Edge.due("no exchange", y.exchanges(), 0L);
    }

    private static void takingOutSiftsDown() {
        Edge.terms("it is sifted up, and then sifted down");
        PenNursery x = Edge.fullNest(0);
        Edge.due("uproot the index 0", x.uproot(0), 0);
        Edge.due("down by four", x.indexOf(23), 15);
        Edge.due("four exchanges", x.exchanges(), 4L);
        Edge.due("uproot in the middle", x.uproot(5), 50);
        Edge.due("no pen is sharper than its parent", x.isConsistent(), true);
    }

    private static void ordering() {
        Edge.terms("for each index from n / 2 - 1 down to 0, the pen at this index is sifted down");
        PenNursery x = new PenNursery();
        Edge.due("no pen", x.reorder(0), 0);
        x.plant(0, 'a', 999);
        Edge.due("one pen", x.reorder(0), 0);
        x.plant(0, 'a', 0);
        Edge.due("two pens, the second one is sharper", x.reorder(0), 1);
        x.plant(0, 'a', 500);
        Edge.due("three pens: from the index 0", x.reorder(0), 1);
        Edge.due("nest", Nursery.nest(x, 0), "1a0 0a999 2a500");
        x.plant(0, 'a', 1);
        Edge.due("four pens: from the index 1, too", x.reorder(0), 2);
        Edge.due("nest", Nursery.nest(x, 0), "1a0 3a1 2a500 0a999");
        PenNursery y = new PenNursery();
        for (int i = 0; i < 24; i++) {
            y.plant(1, 'a', 23 - i);
        }
        Edge.due("24 pens in the reverse order", y.reorder(1), 20);
        Edge.due("the sharpest one", y.penAt(1, 0), 23);
        Edge.due("again", y.reorder(1), 20);
    }

    private static void stocks() {
        Edge.terms("For each feather there is a stock of ink from 0 to 999 drops, which is initially 0.");
        PenNursery x = new PenNursery();
        for (char feather = 'a'; feather <= 'h'; feather++) {
            Edge.due("initially", x.ink(feather), 0);
            Edge.due("up to 999", x.addInk(feather, 999), 999);
            Edge.due("not above 999", x.addInk(feather, 1), 999);
            Edge.due("other stocks", feather == 'h' || x.ink((char) (feather + 1)) == 0, true);
        }
        PenNursery y = Nursery.planted(0, 1, 2);
        y.addInk('a', 1);
        y.pick(0);
        Edge.due("down to 0", y.ink('a'), 0);
        Edge.thrown("not below 0", Nursery.UNSUPPORTED, () -> y.pick(0));
        Edge.due("still 0", y.ink('a'), 0);
    }

    private static void refusedCallsChangeNothing() {
        Edge.terms("A method that throws an exception changes nothing");
        Edge.Recipe[] recipes = {PenNursery::new, Edge::quiet, Edge::busy, Edge::full};
        Edge.Call[] refused = {x -> x.plant(-1, 'a', 1), x -> x.pick(4), x -> x.addInk('i', 1), x -> x.sharpen(99, 1),
            x -> x.blunt(99, 1), x -> x.uproot(99), x -> x.move(99, 1), x -> x.merge(1, 1), x -> x.reorder(4),
            x -> x.recall('i'), x -> x.feather(99), x -> x.date(99), x -> x.nestOf(99), x -> x.indexOf(99),
            x -> x.parentOf(99), x -> x.depth(99), x -> x.rankOf(99), x -> x.size(4), x -> x.penAt(0, 24),
            x -> x.penByRank(0, 24), x -> x.penBySorting(0, 24), x -> x.countBefore(4, 1),
            x -> x.countBeforeByScan(4, 1), x -> x.looksBefore(4, 1), x -> x.levels(4), x -> x.pensWith('i'),
            x -> x.ink('i'), x -> x.writeNest(4), x -> x.charAt(999)};
        for (Edge.Recipe recipe : recipes) {
            for (int i = 0; i < refused.length; i++) {
                PenNursery x = recipe.make();
                Edge.Call call = refused[i];
                Edge.due("call " + i + " throws", Check.answer(() -> call.on(x)).contains("Exception"), true);
                Edge.changesNothing("refused call " + i, recipe, call);
            }
        }
    }

    private static void refusedRunsMakeARecord() {
        Edge.terms("except that run() empties the program buffer and records a syntax error or a failed command");
        PenNursery x = Edge.busy();
        Edge.due("the records before", Edge.records(x), "4 1");
        Edge.thrown("a syntax error", Nursery.ARGUMENT, () -> Nursery.run(x, "1;pick 9;x"));
        Edge.due("the records after it", Edge.records(x), "15 1");
        Edge.due("the buffer after it", x.type('p'), 1);
        Edge.thrown("a failed command", Nursery.UNSUPPORTED, () -> Nursery.run(x, "ick 9;pick 0"));
        Edge.due("the records after it", Edge.records(x), "15 0");
        Edge.due("the buffer after it", x.type('p'), 1);
        Edge.due("the output line after both", Edge.line(x), "2a10 1a20 3c15.");
        Edge.due("the state after both", Nursery.state(x), Nursery.state(Edge.quiet()));
        for (String text : new String[] {"", "x", "ink a+1;x", "order 0;"}) {
            Edge.refusedRun(text, Nursery.ARGUMENT, Edge::full);
        }
        for (String text : new String[] {"pick 9", "recall a;recall b;merge 0>1;plant 0a@1;pick 0;pick 0"}) {
            Edge.refusedRun(text, Nursery.UNSUPPORTED, Edge::full);
        }
    }

    private static void theFirstListedException() {
        Edge.terms("If several conditions for an exception hold, the exception that is listed first is thrown.");
        Edge.refused("plant: no nest, no feather, no date, 24 pens", Nursery.INDEX, Edge::full,
                x -> x.plant(4, 'i', 1000));
        Edge.refused("plant: no nest, 24 pens", Nursery.INDEX, Edge::full, x -> x.plant(-1, 'a', 0));
        Edge.refused("plant: no nest, no feather", Nursery.INDEX, Edge::busy, x -> x.plant(-1, '`', 0));
        Edge.refused("plant: no nest, no date", Nursery.INDEX, Edge::busy, x -> x.plant(4, 'a', -1));
        Edge.refused("plant: no feather, 24 pens", Nursery.ARGUMENT, Edge::full, x -> x.plant(0, 'i', 0));
        Edge.refused("plant: no date, 24 pens", Nursery.ARGUMENT, Edge::full, x -> x.plant(0, 'a', 1000));
        Edge.refused("plant: no feather, no date, 24 pens", Nursery.ARGUMENT, Edge::full,
                x -> x.plant(0, LEAST_SIGN, Edge.LEAST));
        for (int days : Edge.NO_AMOUNTS) {
            for (int pen : Edge.NO_PENS) {
                Edge.refused("sharpen: no pen, no days", Nursery.ELEMENT, Edge::busy, x -> x.sharpen(pen, days));
                Edge.refused("blunt: no pen, no days", Nursery.ELEMENT, Edge::busy, x -> x.blunt(pen, days));
            }
        }
        for (int nest : Edge.NO_NESTS) {
            for (int pen : Edge.NO_PENS) {
                Edge.refused("move: no pen, no nest", Nursery.ELEMENT, Edge::busy, x -> x.move(pen, nest));
            }
            Edge.refused("merge: no nest, twice the same one", Nursery.INDEX, Edge::busy, x -> x.merge(nest, nest));
            for (int index : new int[] {Edge.LEAST, -1, 3, 24, Edge.GREATEST}) {
                Edge.refused("penAt: no nest, no index", Nursery.INDEX, Edge::busy, x -> x.penAt(nest, index));
                Edge.refused("penByRank: no nest, no rank", Nursery.INDEX, Edge::busy, x -> x.penByRank(nest, index));
                Edge.refused("penBySorting: no nest, no rank", Nursery.INDEX, Edge::busy,
                        x -> x.penBySorting(nest, index));
            }
        }
    }

    private static void theFirstListedExceptionOfRun() {
        Edge.terms("If several conditions for an exception hold, the exception that is listed first is thrown.");
        PenNursery x = new PenNursery();
        Edge.thrown("run: no program, and its first command would fail", Nursery.ARGUMENT,
                () -> Nursery.run(x, "pick 0;pick"));
        Edge.due("errorPosition", x.errorPosition(), 11);
        Edge.thrown("failedCommand", Nursery.ELEMENT, x::failedCommand);
        Edge.refusedRun("pick 9;x", Nursery.ARGUMENT, Edge::quiet);
    }

    private static void eightLatestChanges() {
        Edge.terms("The 8 latest changes can be undone.");
        for (int changes = 0; changes <= 20; changes++) {
            PenNursery x = new PenNursery();
            for (int i = 1; i <= changes; i++) {
                x.addInk('a', 1);
            }
            int undos = Math.min(8, changes);
            for (int i = 1; i <= undos; i++) {
                Edge.due("undo " + i + " of " + changes, x.undo(), undos - i);
                Edge.due("ink", x.ink('a'), changes - i);
            }
            Edge.thrown("one more of " + changes, Nursery.STATE, x::undo);
            Edge.due("ink", x.ink('a'), changes - undos);
        }
    }

    private static void everyChangeCountsOnce() {
        Edge.terms("A change is a successful call of plant, pick, sharpen, blunt, uproot, move, merge, reorder,"
                + " recall, addInk or run.");
        Edge.Call[] changes = {x -> x.plant(3, 'a', 1), x -> x.pick(0), x -> x.sharpen(2, 1), x -> x.blunt(2, 1),
            x -> x.uproot(2), x -> x.move(2, 3), x -> x.merge(0, 3), x -> x.reorder(0), x -> x.recall('a'),
            x -> x.addInk('a', 1), x -> Nursery.run(x, "ink a+1"),
            x -> Nursery.run(x, "pick 0;pick 1;order 1;order 1;ink a+7;uproot 3"),
            // Those that alter nothing are successful, too.
            x -> x.merge(3, 0), x -> x.reorder(3), x -> x.recall('f'), x -> x.addInk('h', 1),
            x -> x.sharpen(6, 1), x -> x.blunt(5, 1), x -> Nursery.run(x, "order 3")};
        for (int i = 0; i < changes.length; i++) {
            PenNursery x = Edge.quiet();
            x.save();
            x.restore();
            Edge.thrown("undo before change " + i, Nursery.STATE, x::undo);
            String before = Nursery.state(x);
            changes[i].on(x);
            Edge.due("undo of change " + i, x.undo(), 0);
            Edge.due("the state before change " + i, Nursery.state(x), before);
            Edge.thrown("undo twice of change " + i, Nursery.STATE, x::undo);
        }
    }

    private static void whatIsNoChange() {
        Edge.terms("A change is a successful call of plant, pick, sharpen, blunt, uproot, move, merge, reorder,"
                + " recall, addInk or run.");
        Edge.Call[] calls = {x -> x.save(), x -> x.type('1'), x -> x.writeNest(1), x -> x.writeInk(), x -> x.charAt(0),
            x -> x.pens(), x -> x.exists(1), x -> x.feather(1), x -> x.date(1), x -> x.nestOf(1), x -> x.indexOf(1),
            x -> x.parentOf(1), x -> x.depth(1), x -> x.rankOf(1), x -> x.size(0), x -> x.penAt(0, 2),
            x -> x.penByRank(0, 2), x -> x.penBySorting(0, 2), x -> x.countBefore(0, 999),
            x -> x.countBeforeByScan(0, 999), x -> x.looksBefore(0, 999), x -> x.levels(0), x -> x.pensWith('a'),
            x -> x.ink('a'), x -> x.commonFeather(), x -> x.picked(), x -> x.exchanges(), x -> x.meanDate(),
            x -> x.pickedShare(), x -> x.isConsistent(), x -> x.errorPosition(), x -> x.failedCommand()};
        PenNursery plain = Edge.quiet();
        String before = Nursery.state(plain);
        plain.undo();
        String undone = Nursery.state(plain);
        for (int i = 0; i < calls.length; i++) {
            PenNursery x = Edge.quiet();
            calls[i].on(x);
            Edge.due("the state after call " + i, Nursery.state(x), before);
            Edge.due("undo after call " + i, x.undo(), 7);
            Edge.due("the state then", Nursery.state(x), undone);
        }
        for (int i = 5; i < calls.length; i++) {
            Edge.changesNothing("call " + i, Edge::busy, calls[i]);
        }
    }

    private static void whatIsNotInTheState() {
        Edge.terms("everything except the program buffer, the error position, the failed command and the output line");
        PenNursery x = Nursery.planted(0, 1, 2);
        x.save();
        x.addInk('b', 1);
        Edge.thrown("run", Nursery.ARGUMENT, () -> Nursery.run(x, "order 1;order"));
        Edge.thrown("run", Nursery.UNSUPPORTED, () -> Nursery.run(x, "order 1;order 2;pick 3"));
        x.writeInk();
        Nursery.type(x, "ink b+");
        x.undo();
        Edge.due("the records after undo", Edge.records(x), "13 2");
        Edge.due("the output line after undo", Edge.line(x), "b1.");
        Edge.due("the buffer after undo", x.type('9'), 7);
        x.restore();
        Edge.due("the records after restore", Edge.records(x), "13 2");
        Edge.due("the output line after restore", Edge.line(x), "b1.");
        Edge.due("the buffer after restore", x.type('9'), 8);
        Edge.due("run", x.run(), 1);
        Edge.due("ink", x.ink('b'), 99);
        x.undo();
        Edge.due("the buffer stays empty after undo", x.type('o'), 1);
    }

    private static void whatIsInTheState() {
        Edge.terms("The state that is undone, saved and restored consists of everything");
        Edge.Call changes = x -> Nursery.run(x, "pick 0;blunt 1+9;ink c+9;recall d;move 3>2;plant 3h@0");
        PenNursery x = Edge.quiet();
        String before = Nursery.state(x);
        x.save();
        changes.on(x);
        Edge.due("the state is another one", Nursery.state(x).equals(before), false);
        x.undo();
        Edge.due("the state after undo", Nursery.state(x), before);
        changes.on(x);
        x.restore();
        Edge.due("the state after restore", Nursery.state(x), before);
        Edge.due("the exchanges", x.exchanges(), 2L);
        Edge.due("the picked ones", x.picked(), 1);
        Edge.due("the share of the planted ones", x.pickedShare(), 1.0f / 7.0f);
    }
}
