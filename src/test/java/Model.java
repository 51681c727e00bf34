import java.util.ArrayDeque;
import java.util.ArrayList;
import java.util.Comparator;
import java.util.Deque;
import java.util.List;
import java.util.NoSuchElementException;

/** The document once more, in another build: a list of pens a nest, and copies of all for undo. */
final class Model {
    static final Comparator<Pen> SHARPER = Comparator.comparingInt((Pen p) -> p.date).thenComparingInt(p -> p.number);

    static final class Pen {
        final int number;
        final char feather;
        final int date;

        Pen(int number, char feather, int date) {
            this.number = number;
            this.feather = feather;
            this.date = date;
        }
    }

    static final class World {
        final List<List<Pen>> nests = new ArrayList<>();
        final int[] ink = new int[8];
        int planted;
        int picked;
        long exchanges;

        World() {
            for (int i = 0; i < 4; i++) {
                nests.add(new ArrayList<>());
            }
        }

        World copy() {
            World copy = new World();
            for (int i = 0; i < 4; i++) {
                copy.nests.get(i).addAll(nests.get(i));
            }
            System.arraycopy(ink, 0, copy.ink, 0, 8);
            copy.planted = planted;
            copy.picked = picked;
            copy.exchanges = exchanges;
            return copy;
        }

        int pens() {
            return nests.stream().mapToInt(List::size).sum();
        }
    }

    World world = new World();
    private World saved;
    private final Deque<World> history = new ArrayDeque<>();
    private boolean inProgram;

    // ---- changes

    int plant(int nest, char feather, int date) {
        nest(nest);
        need(feather >= 'a' && feather <= 'h' && date >= 0 && date <= 999);
        if (world.pens() == 24) {
            throw new IllegalStateException();
        }
        remember();
        add(nest(nest), new Pen(world.planted, feather, date));
        return world.planted++;
    }

    int pick(int nest) {
        List<Pen> pens = nest(nest);
        if (pens.isEmpty()) {
            throw new NoSuchElementException();
        }
        Pen pen = pens.get(0);
        if (world.ink[pen.feather - 'a'] == 0) {
            throw new UnsupportedOperationException();
        }
        remember();
        world.ink[pen.feather - 'a']--;
        world.picked++;
        takeOut(nest(nest), 0);
        return pen.number;
    }

    int addInk(char feather, int drops) {
        need(feather >= 'a' && feather <= 'h' && drops >= 1 && drops <= 999);
        remember();
        int stock = Math.min(999, world.ink[feather - 'a'] + drops);
        world.ink[feather - 'a'] = stock;
        return stock;
    }

    int sharpen(int pen, int days) {
        Pen old = pen(pen);
        need(days >= 1 && days <= 999);
        remember();
        List<Pen> pens = nest(nestOf(pen));
        int index = pens.indexOf(old);
        pens.set(index, new Pen(pen, old.feather, Math.max(0, old.date - days)));
        return siftUp(pens, index);
    }

    int blunt(int pen, int days) {
        Pen old = pen(pen);
        need(days >= 1 && days <= 999);
        remember();
        List<Pen> pens = nest(nestOf(pen));
        int index = pens.indexOf(old);
        pens.set(index, new Pen(pen, old.feather, Math.min(999, old.date + days)));
        return siftDown(pens, index);
    }

    int uproot(int pen) {
        int date = pen(pen).date;
        remember();
        takeOut(nest(nestOf(pen)), indexOf(pen));
        return date;
    }

    int move(int pen, int nest) {
        Pen moved = pen(pen);
        nest(nest);
        if (nestOf(pen) == nest) {
            throw new IllegalStateException();
        }
        remember();
        takeOut(nest(nestOf(pen)), indexOf(pen));
        return add(nest(nest), moved);
    }

    int merge(int from, int to) {
        nest(from);
        nest(to);
        need(from != to);
        remember();
        List<Pen> moved = new ArrayList<>(nest(from));
        nest(from).clear();
        for (Pen pen : moved) {
            add(nest(to), pen);
        }
        return nest(to).size();
    }

    int reorder(int nest) {
        nest(nest);
        remember();
        nest(nest).sort(Comparator.comparingInt(p -> p.number));
        long before = world.exchanges;
        order(nest(nest));
        return (int) (world.exchanges - before);
    }

    int recall(char feather) {
        need(feather >= 'a' && feather <= 'h');
        remember();
        int before = world.pens();
        for (List<Pen> pens : world.nests) {
            pens.removeIf(p -> p.feather == feather);
            order(pens);
        }
        return before - world.pens();
    }

    /** Executes commands that each are a word and its arguments; answers the failed one, or -1. */
    int run(List<String[]> commands) {
        World before = world.copy();
        inProgram = true;
        int failed = -1;
        for (int i = 0; i < commands.size() && failed < 0; i++) {
            try {
                execute(commands.get(i));
            } catch (RuntimeException e) {
                failed = i;
            }
        }
        inProgram = false;
        if (failed >= 0) {
            world = before;
        } else {
            push(before);
        }
        return failed;
    }

    private int execute(String[] c) {
        switch (c[0]) {
            case "plant": return plant(number(c[1]), c[2].charAt(0), number(c[3]));
            case "pick": return pick(number(c[1]));
            case "sharpen": return sharpen(number(c[1]), number(c[2]));
            case "blunt": return blunt(number(c[1]), number(c[2]));
            case "uproot": return uproot(number(c[1]));
            case "move": return move(number(c[1]), number(c[2]));
            case "merge": return merge(number(c[1]), number(c[2]));
            case "order": return reorder(number(c[1]));
            case "recall": return recall(c[1].charAt(0));
            default: return addInk(c[1].charAt(0), number(c[2]));
        }
    }

    int undo() {
        if (history.isEmpty()) {
            throw new IllegalStateException();
        }
        world = history.pop();
        return history.size();
    }

    int save() {
        saved = world.copy();
        return world.pens();
    }

    int restore() {
        if (saved == null) {
            throw new IllegalStateException();
        }
        world = saved.copy();
        history.clear();
        return world.pens();
    }

    // ---- properties

    List<Pen> nest(int nest) {
        if (nest < 0 || nest > 3) {
            throw new IndexOutOfBoundsException();
        }
        return world.nests.get(nest);
    }

    Pen pen(int number) {
        return world.nests.stream().flatMap(List::stream).filter(p -> p.number == number).findAny()
                .orElseThrow(NoSuchElementException::new);
    }

    int nestOf(int pen) {
        Pen wanted = pen(pen);
        for (int nest = 0; nest < 4; nest++) {
            if (world.nests.get(nest).contains(wanted)) {
                return nest;
            }
        }
        throw new AssertionError();
    }

    int indexOf(int pen) {
        return nest(nestOf(pen)).indexOf(pen(pen));
    }

    int rankOf(int pen) {
        return sorted(nestOf(pen)).indexOf(pen(pen));
    }

    List<Pen> sorted(int nest) {
        List<Pen> sorted = new ArrayList<>(nest(nest));
        sorted.sort(SHARPER);
        return sorted;
    }

    int penByRank(int nest, int rank) {
        List<Pen> sorted = sorted(nest);
        if (rank < 0 || rank >= sorted.size()) {
            throw new NoSuchElementException();
        }
        return sorted.get(rank).number;
    }

    int countBefore(int nest, int date) {
        return (int) nest(nest).stream().filter(p -> p.date < date).count();
    }

    // A pen is looked at if it stands at the index 0 or the pen at its parent is counted.
    int looksBefore(int nest, int date) {
        List<Pen> pens = nest(nest);
        int looks = 0;
        for (int i = 0; i < pens.size(); i++) {
            if (i == 0 || pens.get((i - 1) / 2).date < date) {
                looks++;
            }
        }
        return looks;
    }

    int levels(int nest) {
        return 32 - Integer.numberOfLeadingZeros(nest(nest).size());
    }

    int depth(int pen) {
        return 31 - Integer.numberOfLeadingZeros(indexOf(pen) + 1);
    }

    int parentOf(int pen) {
        int index = indexOf(pen);
        if (index == 0) {
            throw new NoSuchElementException();
        }
        return nest(nestOf(pen)).get((index - 1) / 2).number;
    }

    int pensWith(char feather) {
        need(feather >= 'a' && feather <= 'h');
        return (int) world.nests.stream().flatMap(List::stream).filter(p -> p.feather == feather).count();
    }

    int ink(char feather) {
        need(feather >= 'a' && feather <= 'h');
        return world.ink[feather - 'a'];
    }

    char commonFeather() {
        if (world.pens() == 0) {
            throw new NoSuchElementException();
        }
        char common = 'h';
        for (char feather = 'h'; feather >= 'a'; feather--) {
            common = pensWith(feather) >= pensWith(common) ? feather : common;
        }
        return common;
    }

    double meanDate() {
        if (world.pens() == 0) {
            throw new ArithmeticException();
        }
        int sum = world.nests.stream().flatMap(List::stream).mapToInt(p -> p.date).sum();
        return (double) sum / (double) world.pens();
    }

    float pickedShare() {
        if (world.planted == 0) {
            throw new ArithmeticException();
        }
        return (float) world.picked / (float) world.planted;
    }

    String nestLine(int nest) {
        List<String> parts = new ArrayList<>();
        for (Pen pen : nest(nest)) {
            parts.add("" + pen.number + pen.feather + pen.date);
        }
        return String.join(" ", parts);
    }

    String inkLine() {
        List<String> parts = new ArrayList<>();
        for (int i = 0; i < 8; i++) {
            if (world.ink[i] != 0) {
                parts.add((char) ('a' + i) + "" + world.ink[i]);
            }
        }
        return String.join(",", parts);
    }

    // ---- heaps

    int add(List<Pen> pens, Pen pen) {
        pens.add(pen);
        return siftUp(pens, pens.size() - 1);
    }

    void takeOut(List<Pen> pens, int index) {
        Pen last = pens.remove(pens.size() - 1);
        if (index == pens.size()) {
            return;
        }
        pens.set(index, last);
        siftDown(pens, siftUp(pens, index));
    }

    void order(List<Pen> pens) {
        for (int i = Math.floorDiv(pens.size(), 2) - 1; i >= 0; i--) {
            siftDown(pens, i);
        }
    }

    private int siftUp(List<Pen> pens, int index) {
        int parent = (index - 1) / 2;
        if (index == 0 || SHARPER.compare(pens.get(index), pens.get(parent)) > 0) {
            return index;
        }
        exchange(pens, index, parent);
        return siftUp(pens, parent);
    }

    private int siftDown(List<Pen> pens, int index) {
        int sharpest = index;
        for (int child = 2 * index + 1; child <= 2 * index + 2 && child < pens.size(); child++) {
            if (SHARPER.compare(pens.get(child), pens.get(sharpest)) < 0) {
                sharpest = child;
            }
        }
        if (sharpest == index) {
            return index;
        }
        exchange(pens, index, sharpest);
        return siftDown(pens, sharpest);
    }

    private void exchange(List<Pen> pens, int index, int other) {
        java.util.Collections.swap(pens, index, other);
        world.exchanges++;
    }

    // ---- what the changes have in common

    private void remember() {
        if (!inProgram) {
            push(world.copy());
        }
    }

    private void push(World before) {
        history.push(before);
        if (history.size() > 8) {
            history.removeLast();
        }
    }

    private static void need(boolean condition) {
        if (!condition) {
            throw new IllegalArgumentException();
        }
    }

    private static int number(String text) {
        return Integer.parseInt(text);
    }
}
