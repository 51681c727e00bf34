import java.util.NoSuchElementException;

/** A nursery of pens that are kept in binary heaps. */
public final class PenNursery {
    private static final int NESTS = 4;
    private static final int MOST_PENS = 24;
    private static final int MOST_LEVELS = 5;
    private static final int MOST_DATE = 999;
    private static final int MOST_DAYS = 999;
    private static final int MOST_INK = 999;
    private static final char FIRST_FEATHER = 'a';
    private static final char LAST_FEATHER = 'h';
    private static final int FEATHERS = LAST_FEATHER - FIRST_FEATHER + 1;
    private static final int MOST_UNDOS = 8;
    private static final int MOST_SIGNS = 60;
    // The shortest command has 6 signs and a semicolon between two: 8 fill the buffer,
    // and of one more at least the beginning can be read.
    private static final int MOST_COMMANDS = 9;
    private static final int MOST_DIGITS = 3;
    private static final int NOTHING = -1;

    // What a change answers in place of a number from 0 on when it is refused, before it
    // has changed anything. It does not throw, because a program asks for it, too.
    private static final int NO_NEST = -1;
    private static final int NO_PEN = -2;
    private static final int BAD_VALUE = -3;
    private static final int BAD_STATE = -4;
    private static final int NO_INK = -5;

    private static final Kind[] KINDS = Kind.values();

    private final State now = new State();
    private final State saved = new State();
    private final History history = new History();
    private final Program program = new Program();
    private final Nest scratch = new Nest();
    private final StringBuilder line = new StringBuilder();
    private boolean hasSaved = false;
    private int lastError = NOTHING;
    private int lastFailure = NOTHING;

    public PenNursery() {
    }

    // ---- planting and picking

    public int plant(int nest, char feather, int date)
            throws IndexOutOfBoundsException, IllegalArgumentException, IllegalStateException {
        history.prepare(now);
        return finishChange(now.plantPen(nest, feather, date));
    }

    public int pick(int nest)
            throws IndexOutOfBoundsException, NoSuchElementException, UnsupportedOperationException {
        history.prepare(now);
        return finishChange(now.pickPen(nest));
    }

    public int addInk(char feather, int drops) throws IllegalArgumentException {
        history.prepare(now);
        return finishChange(now.pourInk(feather, drops));
    }

    // ---- changing pens

    public int sharpen(int pen, int days) throws NoSuchElementException, IllegalArgumentException {
        history.prepare(now);
        return finishChange(now.sharpenPen(pen, days));
    }

    public int blunt(int pen, int days) throws NoSuchElementException, IllegalArgumentException {
        history.prepare(now);
        return finishChange(now.bluntPen(pen, days));
    }

    public int uproot(int pen) throws NoSuchElementException {
        history.prepare(now);
        return finishChange(now.uprootPen(pen));
    }

    public int move(int pen, int nest)
            throws NoSuchElementException, IndexOutOfBoundsException, IllegalStateException {
        history.prepare(now);
        return finishChange(now.movePen(pen, nest));
    }

    // ---- changing nests

    public int merge(int from, int to) throws IndexOutOfBoundsException, IllegalArgumentException {
        history.prepare(now);
        return finishChange(now.mergeNests(from, to));
    }

    public int reorder(int nest) throws IndexOutOfBoundsException {
        history.prepare(now);
        return finishChange(now.reorderNest(nest));
    }

    public int recall(char feather) throws IllegalArgumentException {
        history.prepare(now);
        return finishChange(now.recallPens(feather));
    }

    // ---- properties of pens

    public int pens() {
        return now.penCount();
    }

    public boolean exists(int pen) {
        return now.nestWith(pen) >= 0;
    }

    public char feather(int pen) throws NoSuchElementException {
        Nest nest = nestHolding(pen);
        return nest.feathers[nest.indexWith(pen)];
    }

    public int date(int pen) throws NoSuchElementException {
        Nest nest = nestHolding(pen);
        return nest.dates[nest.indexWith(pen)];
    }

    public int nestOf(int pen) throws NoSuchElementException {
        int nest = now.nestWith(pen);
        if (nest < 0) {
            throw new NoSuchElementException("no such pen");
        }
        return nest;
    }

    public int indexOf(int pen) throws NoSuchElementException {
        return nestHolding(pen).indexWith(pen);
    }

    public int parentOf(int pen) throws NoSuchElementException {
        Nest nest = nestHolding(pen);
        int index = nest.indexWith(pen);
        if (index <= 0) {
            throw new NoSuchElementException("no parent");
        }
        return nest.numbers[(index - 1) / 2];
    }

    public int depth(int pen) throws NoSuchElementException {
        return Nest.depthAt(nestHolding(pen).indexWith(pen));
    }

    public int rankOf(int pen) throws NoSuchElementException {
        Nest nest = nestHolding(pen);
        return nest.rankAt(nest.indexWith(pen));
    }

    // ---- properties of nests

    public int size(int nest) throws IndexOutOfBoundsException {
        return nestNumbered(nest).size;
    }

    public int penAt(int nest, int index) throws IndexOutOfBoundsException, NoSuchElementException {
        Nest heap = nestNumbered(nest);
        if (!heap.hasIndex(index)) {
            throw new NoSuchElementException("no such index");
        }
        return heap.numbers[index];
    }

    public int penByRank(int nest, int rank) throws IndexOutOfBoundsException, NoSuchElementException {
        Nest heap = nestNumbered(nest);
        if (!heap.hasIndex(rank)) {
            throw new NoSuchElementException("no such rank");
        }
        return findByTakingOut(heap, rank);
    }

    public int penBySorting(int nest, int rank) throws IndexOutOfBoundsException, NoSuchElementException {
        Nest heap = nestNumbered(nest);
        if (!heap.hasIndex(rank)) {
            throw new NoSuchElementException("no such rank");
        }
        return findBySorting(heap, rank);
    }

    public int countBefore(int nest, int date) throws IndexOutOfBoundsException {
        return nestNumbered(nest).countByRecursion(date);
    }

    public int countBeforeByScan(int nest, int date) throws IndexOutOfBoundsException {
        return nestNumbered(nest).countByScan(date);
    }

    public int looksBefore(int nest, int date) throws IndexOutOfBoundsException {
        return nestNumbered(nest).looksOfRecursion(date);
    }

    public int levels(int nest) throws IndexOutOfBoundsException {
        int size = nestNumbered(nest).size;
        return size == 0 ? 0 : 1 + Nest.depthAt(size - 1);
    }

    // ---- feathers, ink and statistics

    public int pensWith(char feather) throws IllegalArgumentException {
        checkFeather(feather);
        return now.countWith(feather);
    }

    public int ink(char feather) throws IllegalArgumentException {
        checkFeather(feather);
        return now.stocks[feather - FIRST_FEATHER];
    }

    public char commonFeather() throws NoSuchElementException {
        char common = FIRST_FEATHER;
        int most = 0;
        for (char feather = FIRST_FEATHER; feather <= LAST_FEATHER; feather++) {
            int count = now.countWith(feather);
            if (count > most) {
                common = feather;
                most = count;
            }
        }
        if (most == 0) {
            throw new NoSuchElementException("no pens");
        }
        return common;
    }

    public int picked() {
        return now.picked;
    }

    public long exchanges() {
        return now.exchangeCount();
    }

    public double meanDate() throws ArithmeticException {
        int pens = now.penCount();
        if (pens == 0) {
            throw new ArithmeticException("no pens");
        }
        return (double) now.dateSum() / (double) pens;
    }

    public float pickedShare() throws ArithmeticException {
        if (now.planted == 0) {
            throw new ArithmeticException("no pen was planted");
        }
        return (float) now.picked / (float) now.planted;
    }

    public boolean isConsistent() {
        for (Nest nest : now.nests) {
            if (!nest.isHeap() || !ranksAgree(nest) || !countsAgree(nest)) {
                return false;
            }
        }
        return true;
    }

    // ---- output

    public int writeNest(int nest) throws IndexOutOfBoundsException {
        Nest heap = nestNumbered(nest);
        line.setLength(0);
        for (int i = 0; i < heap.size; i++) {
            if (i > 0) {
                line.append(' ');
            }
            line.append(heap.numbers[i]);
            line.append(heap.feathers[i]);
            line.append(heap.dates[i]);
        }
        return line.length();
    }

    public int writeInk() {
        line.setLength(0);
        for (int i = 0; i < FEATHERS; i++) {
            if (now.stocks[i] > 0) {
                if (line.length() > 0) {
                    line.append(',');
                }
                line.append((char) (FIRST_FEATHER + i));
                line.append(now.stocks[i]);
            }
        }
        return line.length();
    }

    public char charAt(int index) throws IndexOutOfBoundsException {
        if (index < 0 || index >= line.length()) {
            throw new IndexOutOfBoundsException("no such character");
        }
        return line.charAt(index);
    }

    // ---- programs

    public int type(char character) throws IllegalStateException {
        if (program.length >= MOST_SIGNS) {
            throw new IllegalStateException("the buffer is full");
        }
        program.append(character);
        return program.length;
    }

    public int run() throws IllegalArgumentException, UnsupportedOperationException {
        int commands = program.parse();
        program.length = 0;
        if (commands < 0) {
            lastError = program.error;
            throw new IllegalArgumentException("not a program");
        }
        int failed = executeAll(commands);
        if (failed >= 0) {
            lastFailure = failed;
            throw new UnsupportedOperationException("a command failed");
        }
        return commands;
    }

    public int errorPosition() throws NoSuchElementException {
        if (lastError < 0) {
            throw new NoSuchElementException("every text was a program");
        }
        return lastError;
    }

    public int failedCommand() throws NoSuchElementException {
        if (lastFailure < 0) {
            throw new NoSuchElementException("no command failed");
        }
        return lastFailure;
    }

    // ---- undo and snapshots

    public int undo() throws IllegalStateException {
        if (history.count == 0) {
            throw new IllegalStateException("no change can be undone");
        }
        now.copyFrom(history.takeLatest());
        return history.count;
    }

    public int save() {
        saved.copyFrom(now);
        hasSaved = true;
        return now.penCount();
    }

    public int restore() throws IllegalStateException {
        if (!hasSaved) {
            throw new IllegalStateException("no state was saved");
        }
        now.copyFrom(saved);
        history.clear();
        return now.penCount();
    }

    // ---- what the calls above have in common

    private int finishChange(int answer) {
        if (answer < 0) {
            refuse(answer);
        }
        history.keepPrepared();
        return answer;
    }

    private static void refuse(int reason) {
        switch (reason) {
            case NO_NEST:
                throw new IndexOutOfBoundsException("no such nest");
            case NO_PEN:
                throw new NoSuchElementException("no such pen");
            case BAD_VALUE:
                throw new IllegalArgumentException("not a possible value");
            case NO_INK:
                throw new UnsupportedOperationException("no ink for the feather");
            default:
                throw new IllegalStateException("not possible in this state");
        }
    }

    /** Executes all commands or none; answers the one that failed, or NOTHING. */
    private int executeAll(int commands) {
        history.prepare(now);
        for (int i = 0; i < commands; i++) {
            if (now.execute(program.commands[i]) < 0) {
                now.copyFrom(history.prepared());
                return i;
            }
        }
        history.keepPrepared();
        return NOTHING;
    }

    private Nest nestNumbered(int nest) {
        if (!isNest(nest)) {
            throw new IndexOutOfBoundsException("no such nest");
        }
        return now.nests[nest];
    }

    private Nest nestHolding(int pen) {
        int nest = now.nestWith(pen);
        if (nest < 0) {
            throw new NoSuchElementException("no such pen");
        }
        return now.nests[nest];
    }

    private static void checkFeather(char feather) {
        if (!isFeather(feather)) {
            throw new IllegalArgumentException("not a feather");
        }
    }

    private static boolean isNest(int nest) {
        return nest >= 0 && nest < NESTS;
    }

    private static boolean isFeather(char sign) {
        return sign >= FIRST_FEATHER && sign <= LAST_FEATHER;
    }

    private static boolean isDigit(char sign) {
        return sign >= '0' && sign <= '9';
    }

    private int findByTakingOut(Nest nest, int rank) {
        scratch.copyFrom(nest);
        for (int i = 0; i < rank; i++) {
            scratch.takeOut(0);
        }
        return scratch.numbers[0];
    }

    private int findBySorting(Nest nest, int rank) {
        scratch.copyFrom(nest);
        scratch.sortBySharpness();
        return scratch.numbers[rank];
    }

    private boolean ranksAgree(Nest nest) {
        for (int rank = 0; rank < nest.size; rank++) {
            if (findByTakingOut(nest, rank) != findBySorting(nest, rank)) {
                return false;
            }
        }
        return true;
    }

    private boolean countsAgree(Nest nest) {
        for (int date = 0; date <= 1000; date += 100) {
            if (nest.countByRecursion(date) != nest.countByScan(date)) {
                return false;
            }
        }
        return true;
    }

    /** A binary heap: the pen at each index is a number, a feather and a date. */
    private static final class Nest {
        final int[] numbers = new int[MOST_PENS];
        final char[] feathers = new char[MOST_PENS];
        final int[] dates = new int[MOST_PENS];
        int size = 0;
        // Counted here and not in the state, so that a copy which is searched counts apart.
        long exchanges = 0;

        void copyFrom(Nest other) {
            System.arraycopy(other.numbers, 0, numbers, 0, MOST_PENS);
            System.arraycopy(other.feathers, 0, feathers, 0, MOST_PENS);
            System.arraycopy(other.dates, 0, dates, 0, MOST_PENS);
            size = other.size;
            exchanges = other.exchanges;
        }

        boolean hasIndex(int index) {
            return index >= 0 && index < size;
        }

        int indexWith(int number) {
            for (int i = 0; i < size; i++) {
                if (numbers[i] == number) {
                    return i;
                }
            }
            return NOTHING;
        }

        int add(int number, char feather, int date) {
            // Never so, because all nests together hold no more pens than one has room for.
            if (size >= MOST_PENS) {
                return NOTHING;
            }
            numbers[size] = number;
            feathers[size] = feather;
            dates[size] = date;
            size++;
            return siftUp(size - 1);
        }

        void takeOut(int index) {
            if (!hasIndex(index)) {
                return;
            }
            size--;
            if (index < size) {
                put(index, size);
                siftDown(siftUp(index));
            }
        }

        int siftUp(int index) {
            int at = index;
            while (at > 0 && isSharper(at, (at - 1) / 2)) {
                swap(at, (at - 1) / 2);
                exchanges++;
                at = (at - 1) / 2;
            }
            return at;
        }

        int siftDown(int index) {
            int at = index;
            for (int level = 0; level < MOST_LEVELS; level++) {
                int child = 2 * at + 1;
                if (child + 1 < size && isSharper(child + 1, child)) {
                    child++;
                }
                if (child >= size || !isSharper(child, at)) {
                    return at;
                }
                swap(child, at);
                exchanges++;
                at = child;
            }
            return at;
        }

        int order() {
            long before = exchanges;
            for (int i = size / 2 - 1; i >= 0; i--) {
                siftDown(i);
            }
            return (int) (exchanges - before);
        }

        int dropFeather(char feather) {
            int kept = 0;
            for (int i = 0; i < size; i++) {
                if (feathers[i] != feather) {
                    put(kept, i);
                    kept++;
                }
            }
            int dropped = size - kept;
            size = kept;
            return dropped;
        }

        void sortByNumber() {
            for (int i = 1; i < size; i++) {
                for (int j = i; j > 0 && numbers[j] < numbers[j - 1]; j--) {
                    swap(j, j - 1);
                }
            }
        }

        void sortBySharpness() {
            for (int i = 1; i < size; i++) {
                for (int j = i; j > 0 && isSharper(j, j - 1); j--) {
                    swap(j, j - 1);
                }
            }
        }

        int rankAt(int index) {
            int rank = 0;
            for (int i = 0; i < size; i++) {
                if (isSharper(i, index)) {
                    rank++;
                }
            }
            return rank;
        }

        boolean isHeap() {
            for (int i = 1; i < size; i++) {
                if (isSharper(i, (i - 1) / 2)) {
                    return false;
                }
            }
            return true;
        }

        int countByScan(int date) {
            int count = 0;
            for (int i = 0; i < size; i++) {
                if (dates[i] < date) {
                    count++;
                }
            }
            return count;
        }

        int countByRecursion(int date) {
            return walkBefore(this, 0, date, 0, 0);
        }

        int looksOfRecursion(int date) {
            return walkBefore(this, 0, date, 1, 0);
        }

        int countWith(char feather) {
            int count = 0;
            for (int i = 0; i < size; i++) {
                if (feathers[i] == feather) {
                    count++;
                }
            }
            return count;
        }

        int dateSum() {
            int sum = 0;
            for (int i = 0; i < size; i++) {
                sum += dates[i];
            }
            return sum;
        }

        static int depthAt(int index) {
            int depth = 0;
            for (int at = index; at > 0; at = (at - 1) / 2) {
                depth++;
            }
            return depth;
        }

        /** Counts 1 for a pen whose date is less, and atEnd for a pen where the way ends. */
        private static int walkBefore(Nest nest, int index, int date, int atEnd, int depth) {
            if (depth >= MOST_LEVELS || !nest.hasIndex(index)) {
                return 0;
            }
            if (nest.dates[index] >= date) {
                return atEnd;
            }
            return 1 + walkBefore(nest, 2 * index + 1, date, atEnd, depth + 1)
                    + walkBefore(nest, 2 * index + 2, date, atEnd, depth + 1);
        }

        private boolean isSharper(int index, int other) {
            return dates[index] < dates[other]
                    || dates[index] == dates[other] && numbers[index] < numbers[other];
        }

        private void put(int to, int from) {
            numbers[to] = numbers[from];
            feathers[to] = feathers[from];
            dates[to] = dates[from];
        }

        private void swap(int index, int other) {
            int number = numbers[index];
            char feather = feathers[index];
            int date = dates[index];
            numbers[index] = numbers[other];
            feathers[index] = feathers[other];
            dates[index] = dates[other];
            numbers[other] = number;
            feathers[other] = feather;
            dates[other] = date;
        }
    }

    /** All that is undone, saved and restored. */
    private static final class State {
        final Nest[] nests = new Nest[NESTS];
        final int[] stocks = new int[FEATHERS];
        int planted = 0;
        int picked = 0;

        State() {
            for (int i = 0; i < NESTS; i++) {
                nests[i] = new Nest();
            }
        }

        void copyFrom(State other) {
            for (int i = 0; i < NESTS; i++) {
                nests[i].copyFrom(other.nests[i]);
            }
            System.arraycopy(other.stocks, 0, stocks, 0, FEATHERS);
            planted = other.planted;
            picked = other.picked;
        }

        int execute(Command command) {
            switch (command.kind) {
                case PLANT:
                    return plantPen(command.first, command.feather, command.second);
                case PICK:
                    return pickPen(command.first);
                case SHARPEN:
                    return sharpenPen(command.first, command.second);
                case BLUNT:
                    return bluntPen(command.first, command.second);
                case UPROOT:
                    return uprootPen(command.first);
                case MOVE:
                    return movePen(command.first, command.second);
                case MERGE:
                    return mergeNests(command.first, command.second);
                case ORDER:
                    return reorderNest(command.first);
                case RECALL:
                    return recallPens(command.feather);
                default:
                    return pourInk(command.feather, command.first);
            }
        }

        int plantPen(int nest, char feather, int date) {
            if (!isNest(nest)) {
                return NO_NEST;
            }
            if (!isFeather(feather) || date < 0 || date > MOST_DATE) {
                return BAD_VALUE;
            }
            if (penCount() >= MOST_PENS) {
                return BAD_STATE;
            }
            int number = planted;
            planted++;
            nests[nest].add(number, feather, date);
            return number;
        }

        int pickPen(int nest) {
            if (!isNest(nest)) {
                return NO_NEST;
            }
            Nest heap = nests[nest];
            if (heap.size == 0) {
                return NO_PEN;
            }
            int feather = heap.feathers[0] - FIRST_FEATHER;
            if (stocks[feather] == 0) {
                return NO_INK;
            }
            int number = heap.numbers[0];
            stocks[feather]--;
            picked++;
            heap.takeOut(0);
            return number;
        }

        int pourInk(char feather, int drops) {
            if (!isFeather(feather) || drops < 1 || drops > MOST_INK) {
                return BAD_VALUE;
            }
            int index = feather - FIRST_FEATHER;
            stocks[index] = Math.min(MOST_INK, stocks[index] + drops);
            return stocks[index];
        }

        int sharpenPen(int pen, int days) {
            int nest = nestWith(pen);
            if (nest < 0) {
                return NO_PEN;
            }
            if (days < 1 || days > MOST_DAYS) {
                return BAD_VALUE;
            }
            Nest heap = nests[nest];
            int index = heap.indexWith(pen);
            heap.dates[index] = Math.max(0, heap.dates[index] - days);
            return heap.siftUp(index);
        }

        int bluntPen(int pen, int days) {
            int nest = nestWith(pen);
            if (nest < 0) {
                return NO_PEN;
            }
            if (days < 1 || days > MOST_DAYS) {
                return BAD_VALUE;
            }
            Nest heap = nests[nest];
            int index = heap.indexWith(pen);
            heap.dates[index] = Math.min(MOST_DATE, heap.dates[index] + days);
            return heap.siftDown(index);
        }

        int uprootPen(int pen) {
            int nest = nestWith(pen);
            if (nest < 0) {
                return NO_PEN;
            }
            Nest heap = nests[nest];
            int index = heap.indexWith(pen);
            int date = heap.dates[index];
            heap.takeOut(index);
            return date;
        }

        int movePen(int pen, int nest) {
            int from = nestWith(pen);
            if (from < 0) {
                return NO_PEN;
            }
            if (!isNest(nest)) {
                return NO_NEST;
            }
            if (from == nest) {
                return BAD_STATE;
            }
            Nest heap = nests[from];
            int index = heap.indexWith(pen);
            char feather = heap.feathers[index];
            int date = heap.dates[index];
            heap.takeOut(index);
            return nests[nest].add(pen, feather, date);
        }

        int mergeNests(int from, int to) {
            if (!isNest(from) || !isNest(to)) {
                return NO_NEST;
            }
            if (from == to) {
                return BAD_VALUE;
            }
            Nest source = nests[from];
            Nest target = nests[to];
            for (int i = 0; i < source.size; i++) {
                target.add(source.numbers[i], source.feathers[i], source.dates[i]);
            }
            source.size = 0;
            return target.size;
        }

        int reorderNest(int nest) {
            if (!isNest(nest)) {
                return NO_NEST;
            }
            nests[nest].sortByNumber();
            return nests[nest].order();
        }

        int recallPens(char feather) {
            if (!isFeather(feather)) {
                return BAD_VALUE;
            }
            int recalled = 0;
            for (Nest nest : nests) {
                recalled += nest.dropFeather(feather);
                nest.order();
            }
            return recalled;
        }

        int nestWith(int pen) {
            for (int i = 0; i < NESTS; i++) {
                if (nests[i].indexWith(pen) >= 0) {
                    return i;
                }
            }
            return NOTHING;
        }

        int penCount() {
            int count = 0;
            for (Nest nest : nests) {
                count += nest.size;
            }
            return count;
        }

        int countWith(char feather) {
            int count = 0;
            for (Nest nest : nests) {
                count += nest.countWith(feather);
            }
            return count;
        }

        int dateSum() {
            int sum = 0;
            for (Nest nest : nests) {
                sum += nest.dateSum();
            }
            return sum;
        }

        long exchangeCount() {
            long count = 0;
            for (Nest nest : nests) {
                count += nest.exchanges;
            }
            return count;
        }
    }

    /** A ring of the states before the latest changes, and of one that is prepared. */
    private static final class History {
        // One more than can be undone: what is prepared for a change that is then
        // refused must not take the place of a state that can still be wanted.
        private static final int PLACES = MOST_UNDOS + 1;

        private final State[] states = new State[PLACES];
        private int oldest = 0;
        int count = 0;

        History() {
            for (int i = 0; i < PLACES; i++) {
                states[i] = new State();
            }
        }

        void prepare(State state) {
            prepared().copyFrom(state);
        }

        State prepared() {
            return states[(oldest + count) % PLACES];
        }

        void keepPrepared() {
            if (count < MOST_UNDOS) {
                count++;
            } else {
                oldest = (oldest + 1) % PLACES;
            }
        }

        State takeLatest() {
            if (count > 0) {
                count--;
            }
            return prepared();
        }

        void clear() {
            count = 0;
        }
    }

    /** In a form, D stands for a digit, N for a number, F for a feather. */
    private enum Kind {
        PLANT("plant DF@N"),
        PICK("pick D"),
        SHARPEN("sharpen N-N"),
        BLUNT("blunt N+N"),
        UPROOT("uproot N"),
        MOVE("move N>D"),
        MERGE("merge D>D"),
        ORDER("order D"),
        RECALL("recall F"),
        INK("ink F+N");

        final String form;

        Kind(String form) {
            this.form = form;
        }
    }

    /** A command that was read: its numbers in the order in which they stand, its feather. */
    private static final class Command {
        Kind kind = Kind.PLANT;
        int first = 0;
        int second = 0;
        char feather = FIRST_FEATHER;
        private int given = 0;

        void begin(Kind beginning) {
            kind = beginning;
            given = 0;
        }

        void give(int number) {
            if (given == 0) {
                first = number;
            } else {
                second = number;
            }
            given++;
        }
    }

    /** The program buffer, and the commands that were read from it. */
    private static final class Program {
        // Not a text: a character that is typed may be any one.
        private final char[] signs = new char[MOST_SIGNS];
        final Command[] commands = new Command[MOST_COMMANDS];
        int length = 0;
        int error = 0;
        private int at = 0;

        Program() {
            for (int i = 0; i < MOST_COMMANDS; i++) {
                commands[i] = new Command();
            }
        }

        void append(char sign) {
            if (length < MOST_SIGNS) {
                signs[length] = sign;
                length++;
            }
        }

        /** Answers the number of commands, or NOTHING and sets the error. */
        int parse() {
            at = 0;
            for (int i = 0; i < MOST_COMMANDS; i++) {
                if (!readCommand(commands[i])) {
                    return NOTHING;
                }
                if (at >= length) {
                    return i + 1;
                }
                if (!readSign(';')) {
                    error = at;
                    return NOTHING;
                }
            }
            return NOTHING;
        }

        // The form that goes farthest tells where no form can go on.
        private boolean readCommand(Command command) {
            int start = at;
            error = start;
            for (Kind kind : KINDS) {
                at = start;
                command.begin(kind);
                if (readForm(kind.form, command)) {
                    return true;
                }
                error = Math.max(error, at);
            }
            return false;
        }

        private boolean readForm(String form, Command command) {
            for (int i = 0; i < form.length(); i++) {
                if (!readPart(form.charAt(i), command)) {
                    return false;
                }
            }
            return true;
        }

        private boolean readPart(char part, Command command) {
            switch (part) {
                case 'D':
                    return readNumber(1, command);
                case 'N':
                    return readNumber(MOST_DIGITS, command);
                case 'F':
                    return readFeather(command);
                default:
                    return readSign(part);
            }
        }

        private boolean readNumber(int mostDigits, Command command) {
            int start = at;
            int end = Math.min(length, start + mostDigits);
            int number = 0;
            while (at < end && isDigit(signs[at])) {
                number = 10 * number + signs[at] - '0';
                at++;
            }
            command.give(number);
            return at > start;
        }

        private boolean readFeather(Command command) {
            if (at >= length || !isFeather(signs[at])) {
                return false;
            }
            command.feather = signs[at];
            at++;
            return true;
        }

        private boolean readSign(char sign) {
            if (at >= length || signs[at] != sign) {
                return false;
            }
            at++;
            return true;
        }
    }
}
