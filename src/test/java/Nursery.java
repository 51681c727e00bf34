import java.util.NoSuchElementException;

/** What the tests do often with a nursery. */
final class Nursery {
    static final Class<IndexOutOfBoundsException> INDEX = IndexOutOfBoundsException.class;
    static final Class<NoSuchElementException> ELEMENT = NoSuchElementException.class;
    static final Class<IllegalArgumentException> ARGUMENT = IllegalArgumentException.class;
    static final Class<IllegalStateException> STATE = IllegalStateException.class;
    static final Class<UnsupportedOperationException> UNSUPPORTED = UnsupportedOperationException.class;
    static final Class<ArithmeticException> ARITHMETIC = ArithmeticException.class;
    static final int[] NO_NESTS = {-1, 4, Integer.MIN_VALUE, Integer.MAX_VALUE};
    static final char[] NO_FEATHERS = {'`', 'i', 'A', '0', 0, 'a' + 256, Character.MAX_VALUE};

    private Nursery() {
    }

    /** Plants pens of feather a in one nest, in the order of the dates. */
    static PenNursery planted(int nest, int... dates) {
        PenNursery nursery = new PenNursery();
        for (int date : dates) {
            nursery.plant(nest, 'a', date);
        }
        return nursery;
    }

    static String nest(PenNursery nursery, int nest) {
        return line(nursery, nursery.writeNest(nest));
    }

    static String ink(PenNursery nursery) {
        return line(nursery, nursery.writeInk());
    }

    static String line(PenNursery nursery, int length) {
        StringBuilder line = new StringBuilder();
        for (int i = 0; i < length; i++) {
            line.append(nursery.charAt(i));
        }
        return line.toString();
    }

    static int run(PenNursery nursery, String text) {
        type(nursery, text);
        return nursery.run();
    }

    static void type(PenNursery nursery, String text) {
        for (int i = 0; i < text.length(); i++) {
            nursery.type(text.charAt(i));
        }
    }

    /** All that can be asked of a nursery without changing it, except the output line. */
    static String state(PenNursery nursery) {
        StringBuilder state = new StringBuilder();
        for (int nest = 0; nest < 4; nest++) {
            for (int i = 0; i < nursery.size(nest); i++) {
                int pen = nursery.penAt(nest, i);
                state.append(pen).append(nursery.feather(pen)).append(nursery.date(pen)).append(' ');
            }
            state.append('|');
        }
        for (char feather = 'a'; feather <= 'h'; feather++) {
            state.append(nursery.ink(feather)).append(' ');
        }
        state.append(nursery.pens()).append(' ').append(nursery.picked());
        state.append(' ').append(nursery.exchanges());
        state.append(' ').append(Check.answer(nursery::pickedShare));
        return state.toString();
    }
}
