import java.util.ArrayList;
import java.util.List;

/**
 * What the tests of boundary cases share. Each of them first names the sentence of the document
 * that it is for. No object here is used for more than 512 calls, so each look has its own two.
 */
final class Edge {
    interface Recipe {
        PenNursery make();
    }

    interface Call {
        Object on(PenNursery nursery);
    }

    interface NumberCall {
        Object on(PenNursery nursery, int number);
    }

    interface SignCall {
        Object on(PenNursery nursery, char sign);
    }

    /** One way to look at a nursery, which may use it up. */
    private record Look(String name, Call call) {
    }

    static final int LEAST = Integer.MIN_VALUE;
    static final int GREATEST = Integer.MAX_VALUE;
    static final int[] NO_NESTS = {LEAST, -1, 4, GREATEST};
    /** No days and no drops. */
    static final int[] NO_AMOUNTS = {LEAST, -1, 0, 1000, GREATEST};
    static final int[] NO_DATES = {LEAST, -1, 1000, GREATEST};
    static final char[] NO_FEATHERS = {0, 'A', 'H', '`', 'i', 'a' + 256, 'h' + 256, Character.MAX_VALUE};
    /** No pens of busy() and quiet(): 0 was picked there, and 7 is the next number. */
    static final int[] NO_PENS = {LEAST, -1, 0, 7, GREATEST};

    private static final List<Look> LOOKS = looks();
    private static final List<Look> LOOKS_AT_PROGRAMS =
            List.of(new Look("the records", Edge::records), new Look("the buffer", Edge::buffer));

    private static String sentence = "";

    private Edge() {
    }

    static void promise(int number, String words) {
        sentence = "Promise " + number + ", \"" + words + "\": ";
    }

    static void terms(String words) {
        sentence = "Terms, \"" + words + "\": ";
    }

    static void whatItIs(String words) {
        sentence = "What it is, \"" + words + "\": ";
    }

    static void due(String what, Object got, Object want) {
        Check.due(sentence + what, got, want);
    }

    // ---- refused calls

    static void thrown(String what, Class<? extends RuntimeException> want, Check.Call call) {
        Check.thrown(sentence + what, want, call);
    }

    /** The call throws what is due, and nothing that can be observed has changed by it. */
    static void refused(String what, Class<? extends RuntimeException> want, Recipe recipe, Call call) {
        PenNursery nursery = recipe.make();
        thrown(what, want, () -> call.on(nursery));
        sameLooks(what, LOOKS, recipe, call);
        sameLooks(what, LOOKS_AT_PROGRAMS, recipe, call);
    }

    /** As refused, for a run of a text: that empties the buffer and makes a record. */
    static void refusedRun(String text, Class<? extends RuntimeException> want, Recipe recipe) {
        PenNursery nursery = recipe.make();
        thrown("run of " + text, want, () -> Nursery.run(nursery, text));
        due("type after a run of " + text, nursery.type('x'), 1);
        sameLooks("run of " + text, LOOKS, recipe, x -> Nursery.run(x, text));
    }

    /** The call, whatever it answers, changes nothing that a look shows. */
    static void changesNothing(String what, Recipe recipe, Call call) {
        sameLooks(what, LOOKS, recipe, call);
        sameLooks(what, LOOKS_AT_PROGRAMS, recipe, call);
    }

    static void refusesNumbers(String what, int[] numbers, Class<? extends RuntimeException> want, NumberCall call) {
        for (int number : numbers) {
            refused(what + " " + number, want, Edge::busy, x -> call.on(x, number));
        }
    }

    static void refusesFeathers(String what, SignCall call) {
        for (char sign : NO_FEATHERS) {
            refused(what + " " + (int) sign, Nursery.ARGUMENT, Edge::busy, x -> call.on(x, sign));
        }
    }

    private static void sameLooks(String what, List<Look> looks, Recipe recipe, Call call) {
        for (Look look : looks) {
            PenNursery touched = recipe.make();
            Check.answer(() -> call.on(touched));
            PenNursery untouched = recipe.make();
            due(what + ", then " + look.name, look.call.on(touched), look.call.on(untouched));
        }
    }

    private static List<Look> looks() {
        List<Look> looks = new ArrayList<>();
        looks.add(new Look("the state", Nursery::state));
        looks.add(new Look("the next number", Edge::nextNumber));
        looks.add(new Look("the output line", Edge::line));
        looks.add(new Look("the saved state", Edge::savedState));
        for (int i = 1; i <= 9; i++) {
            int undos = i;
            looks.add(new Look(undos + " undone", x -> stateAfter(x, undos)));
        }
        return looks;
    }

    private static Object nextNumber(PenNursery nursery) {
        for (int nest = 0; nursery.pens() == 24; nest++) {
            if (nursery.size(nest) > 0) {
                nursery.uproot(nursery.penAt(nest, 0));
            }
        }
        return nursery.plant(0, 'a', 0);
    }

    /** The output line, as far as it can be read. */
    static String line(PenNursery nursery) {
        StringBuilder line = new StringBuilder();
        try {
            for (int i = 0; i < 200; i++) {
                line.append(nursery.charAt(i));
            }
        } catch (IndexOutOfBoundsException e) {
            line.append('.');
        }
        return line.toString();
    }

    private static String savedState(PenNursery nursery) {
        String answer = Check.answer(nursery::restore);
        return answer + " " + Nursery.state(nursery) + " " + Check.answer(nursery::undo);
    }

    private static String stateAfter(PenNursery nursery, int undos) {
        StringBuilder answers = new StringBuilder();
        for (int i = 0; i < undos; i++) {
            answers.append(Check.answer(nursery::undo)).append(' ');
        }
        return answers + Nursery.state(nursery);
    }

    static String records(PenNursery nursery) {
        return Check.answer(nursery::errorPosition) + " " + Check.answer(nursery::failedCommand);
    }

    private static String buffer(PenNursery nursery) {
        String answer = Check.answer(() -> nursery.type('5')) + " " + Check.answer(nursery::run);
        return answer + " " + records(nursery) + " " + Nursery.state(nursery);
    }

    // ---- nurseries to begin with

    /**
     * The pens 2a10 1a20 3c15 in nest 0, 4b7 in nest 1, 6d0 5d999 in nest 2 and none in nest 3;
     * the ink a3, b1, h999; the pen 0 was picked; more than 8 changes; a saved state, both
     * records, an output line, and nothing in the buffer.
     */
    static PenNursery quiet() {
        PenNursery x = new PenNursery();
        x.addInk('b', 2);
        x.plant(0, 'b', 5);
        x.pick(0);
        x.save();
        x.plant(0, 'a', 20);
        x.plant(0, 'a', 10);
        x.plant(0, 'c', 15);
        x.plant(1, 'b', 7);
        x.plant(2, 'd', 999);
        x.plant(2, 'd', 0);
        x.addInk('a', 3);
        x.addInk('h', 999);
        Check.answer(() -> Nursery.run(x, "pick"));
        Check.answer(() -> Nursery.run(x, "ink a+1;pick 3"));
        x.writeNest(0);
        return x;
    }

    /** As quiet(), with the beginning of a program in the buffer. */
    static PenNursery busy() {
        PenNursery x = quiet();
        Nursery.type(x, "ink c+");
        return x;
    }

    /** 24 pens, six in each nest, of all feathers, and ink for all of them. */
    static PenNursery full() {
        PenNursery x = new PenNursery();
        for (int i = 0; i < 24; i++) {
            x.plant(i % 4, (char) ('a' + i % 8), 500 - 20 * i);
        }
        for (char feather = 'a'; feather <= 'h'; feather++) {
            x.addInk(feather, 24);
        }
        return x;
    }

    /** 24 pens of feather a in one nest: the pen at each index has this index as its number. */
    static PenNursery fullNest(int nest) {
        PenNursery x = new PenNursery();
        for (int i = 0; i < 24; i++) {
            x.plant(nest, 'a', 10 * i);
        }
        return x;
    }

    static PenNursery withText(String text) {
        PenNursery x = new PenNursery();
        Nursery.type(x, text);
        return x;
    }
}
