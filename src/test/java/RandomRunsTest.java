import java.util.ArrayList;
import java.util.List;
import java.util.NoSuchElementException;
import java.util.function.IntFunction;

/** Long runs of mixed calls, with good and bad arguments, compared with the model. */
public final class RandomRunsTest {
    private static final int RUNS = 6000;
    // Nothing is promised of an object behind these calls.
    private static final int CALLS = 512;
    // What a change with the looks behind it, a line, and the last look at all may need at most.
    private static final int CALLS_OF_A_STEP = 61 + 12;
    private static final int CALLS_OF_A_LINE = 24 * 8;
    private static final int CALLS_OF_THE_END = 6 + 4 + 24 * 3 + 8;

    private final Dice dice;
    private final int run;
    // How many of the nests and feathers this run uses, so that nests also get full.
    private final int nests;
    private final int feathers;
    // How many of four programs it runs: without the calls that type them it is longer.
    private final int programs;
    private final PenNursery nursery = new PenNursery();
    private final Model model = new Model();
    private int failed = -1;
    private int calls = 0;

    private RandomRunsTest(int run) {
        this.run = run;
        dice = new Dice(run);
        nests = 1 + dice.below(4);
        feathers = 1 + dice.below(8);
        programs = dice.below(4);
    }

    public static void main(String[] args) {
        for (int run = 0; run < RUNS; run++) {
            new RandomRunsTest(run).go();
        }
        Check.end();
    }

    private void go() {
        for (int i = dice.below(25); i > 0; i--) {
            plant("run " + run + ", at the beginning: plant", dice.below(nests));
        }
        for (int step = 0; fits(CALLS_OF_A_STEP); step++) {
            String what = "run " + run + ", step " + step + ": ";
            change(what);
            same(what + "exchanges", nursery::exchanges, () -> model.world.exchanges);
            if (dice.below(8) == 0) {
                compareSome(what);
            }
        }
        compareAll("run " + run + ", at the end: ");
    }

    private void plant(String what, int nest) {
        char feather = (char) ('a' + dice.below(feathers));
        int date = dice.below(dice.below(2) == 0 ? 30 : 1000);
        same(what, () -> nursery.plant(nest, feather, date), () -> model.plant(nest, feather, date));
    }

    private boolean fits(int more) {
        return calls + more + CALLS_OF_THE_END <= CALLS;
    }

    private void change(String what) {
        int nest = nest();
        int other = nest();
        int pen = pen();
        int days = days();
        char feather = feather();
        switch (dice.below(16)) {
            case 0:
            case 1:
            case 2:
            case 3: same(what + "plant", () -> nursery.plant(nest, feather, days), () -> model.plant(nest, feather, days));
                break;
            case 4: same(what + "pick", () -> nursery.pick(nest), () -> model.pick(nest));
                break;
            case 5: same(what + "addInk", () -> nursery.addInk(feather, days), () -> model.addInk(feather, days));
                break;
            case 6: same(what + "sharpen", () -> nursery.sharpen(pen, days), () -> model.sharpen(pen, days));
                break;
            case 7: same(what + "blunt", () -> nursery.blunt(pen, days), () -> model.blunt(pen, days));
                break;
            case 8: same(what + "uproot", () -> nursery.uproot(pen), () -> model.uproot(pen));
                break;
            case 9: same(what + "move", () -> nursery.move(pen, nest), () -> model.move(pen, nest));
                break;
            case 10: same(what + "merge", () -> nursery.merge(nest, other), () -> model.merge(nest, other));
                break;
            case 11: same(what + "reorder", () -> nursery.reorder(nest), () -> model.reorder(nest));
                break;
            case 12: rarely(what, feather);
                break;
            case 13: same(what + "undo", () -> nursery.undo(), () -> model.undo());
                break;
            default:
                if (dice.below(4) < programs) {
                    runProgram(what);
                }
                break;
        }
    }

    private void rarely(String what, char feather) {
        switch (dice.below(6)) {
            case 0: same(what + "recall", () -> nursery.recall(feather), () -> model.recall(feather));
                break;
            case 1: same(what + "save", () -> nursery.save(), () -> model.save());
                break;
            case 2: same(what + "restore", () -> nursery.restore(), () -> model.restore());
                break;
            default:
                break;
        }
    }

    private void runProgram(String what) {
        List<String[]> commands = new ArrayList<>();
        StringBuilder text = new StringBuilder();
        int count = 1 + dice.below(6);
        for (int i = 0; i < count; i++) {
            String[] command = command();
            String written = written(command);
            if (text.length() + written.length() + 1 <= 60) {
                text.append(i == 0 ? "" : ";").append(written);
                commands.add(command);
            }
        }
        Nursery.type(nursery, text.toString());
        String answer = Check.answer(nursery::run);
        calls += text.length() + 1;
        int failure = model.run(commands);
        if (failure >= 0) {
            failed = failure;
            Check.due(what + "run of " + text, answer, "java.lang.UnsupportedOperationException");
        } else {
            Check.due(what + "run of " + text, answer, String.valueOf(commands.size()));
        }
    }

    private String[] command() {
        String feather = String.valueOf((char) ('a' + dice.below(feathers)));
        String number = new String[] {"%d", "%02d", "%03d"}[dice.below(3)].formatted(dice.below(dice.below(2) == 0 ? 40 : 1000));
        String nest = String.valueOf(dice.below(20) == 0 ? 4 : dice.below(nests));
        String other = String.valueOf(dice.below(nests));
        String pen = String.valueOf(Math.min(999, Math.max(0, pen())));
        switch (dice.below(11)) {
            case 0:
            case 1: return new String[] {"plant", nest, feather, number};
            case 2: return new String[] {"pick", nest};
            case 3: return new String[] {"sharpen", pen, number};
            case 4: return new String[] {"blunt", pen, number};
            case 5: return new String[] {"uproot", pen};
            case 6: return new String[] {"move", pen, nest};
            case 7: return new String[] {"merge", nest, other};
            case 8: return new String[] {"order", nest};
            case 9: return dice.below(4) == 0 ? new String[] {"recall", feather} : new String[] {"order", other};
            default: return new String[] {"ink", feather, number};
        }
    }

    private static String written(String[] c) {
        switch (c[0]) {
            case "plant": return "plant " + c[1] + c[2] + "@" + c[3];
            case "sharpen": return "sharpen " + c[1] + "-" + c[2];
            case "blunt": return "blunt " + c[1] + "+" + c[2];
            case "move": return "move " + c[1] + ">" + c[2];
            case "merge": return "merge " + c[1] + ">" + c[2];
            case "ink": return "ink " + c[1] + "+" + c[2];
            default: return c[0] + " " + c[1];
        }
    }

    private void compareSome(String what) {
        switch (dice.below(5)) {
            case 0: compareLine(what, dice.below(4));
                break;
            case 1: comparePens(what);
                break;
            case 2:
            case 3: compareNests(what);
                break;
            default: compareStatistics(what);
                break;
        }
    }

    private void compareLine(String what, int nest) {
        if (!fits(CALLS_OF_A_LINE)) {
            return;
        }
        if (dice.below(2) == 0) {
            sameLine(what + "nest " + nest, Nursery.nest(nursery, nest), model.nestLine(nest));
        } else {
            sameLine(what + "ink", Nursery.ink(nursery), model.inkLine());
        }
    }

    private void compareStatistics(String what) {
        same(what + "pens", nursery::pens, () -> model.world.pens());
        same(what + "picked", nursery::picked, () -> model.world.picked);
        same(what + "commonFeather", nursery::commonFeather, model::commonFeather);
        same(what + "meanDate", nursery::meanDate, model::meanDate);
        same(what + "pickedShare", nursery::pickedShare, model::pickedShare);
        same(what + "failedCommand", nursery::failedCommand, () -> {
            if (failed < 0) {
                throw new NoSuchElementException();
            }
            return failed;
        });
    }

    private void compareAll(String what) {
        compareStatistics(what);
        for (int i = 0; i < 4; i++) {
            int nest = i;
            List<Model.Pen> pens = model.nest(nest);
            same(what + "size of " + nest, () -> nursery.size(nest), pens::size);
            for (int k = 0; k < pens.size(); k++) {
                int index = k;
                Model.Pen pen = pens.get(index);
                same(what + "penAt " + nest + " " + index, () -> nursery.penAt(nest, index), () -> pen.number);
                same(what + "feather", () -> nursery.feather(pen.number), () -> pen.feather);
                same(what + "date", () -> nursery.date(pen.number), () -> pen.date);
            }
        }
        for (char letter = 'a'; letter <= 'h'; letter++) {
            char feather = letter;
            same(what + "ink " + feather, () -> nursery.ink(feather), () -> model.ink(feather));
        }
    }

    private void comparePens(String what) {
        int pen = pen();
        same(what + "exists", () -> nursery.exists(pen), () -> !Check.answer(() -> model.pen(pen)).startsWith("java"));
        same(what + "feather", () -> nursery.feather(pen), () -> model.pen(pen).feather);
        same(what + "date", () -> nursery.date(pen), () -> model.pen(pen).date);
        same(what + "nestOf", () -> nursery.nestOf(pen), () -> model.nestOf(pen));
        same(what + "indexOf", () -> nursery.indexOf(pen), () -> model.indexOf(pen));
        same(what + "parentOf", () -> nursery.parentOf(pen), () -> model.parentOf(pen));
        same(what + "depth", () -> nursery.depth(pen), () -> model.depth(pen));
        same(what + "rankOf", () -> nursery.rankOf(pen), () -> model.rankOf(pen));
    }

    private void compareNests(String what) {
        int nest = nest();
        int date = dice.below(1100) - 50;
        int rank = dice.below(25) - 1;
        char feather = feather();
        same(what + "penByRank", () -> nursery.penByRank(nest, rank), () -> model.penByRank(nest, rank));
        same(what + "penBySorting", () -> nursery.penBySorting(nest, rank), () -> model.penByRank(nest, rank));
        same(what + "countBefore", () -> nursery.countBefore(nest, date), () -> model.countBefore(nest, date));
        same(what + "countBeforeByScan", () -> nursery.countBeforeByScan(nest, date), () -> model.countBefore(nest, date));
        same(what + "looksBefore", () -> nursery.looksBefore(nest, date), () -> model.looksBefore(nest, date));
        same(what + "pensWith", () -> nursery.pensWith(feather), () -> model.pensWith(feather));
        same(what + "ink", () -> nursery.ink(feather), () -> model.ink(feather));
        same(what + "size", () -> nursery.size(nest), () -> model.nest(nest).size());
        same(what + "levels", () -> nursery.levels(nest), () -> model.levels(nest));
        same(what + "isConsistent", nursery::isConsistent, () -> true);
    }

    private void same(String what, Check.Call call, Check.Call wanted) {
        calls++;
        Check.due(what, Check.answer(call), Check.answer(wanted));
    }

    /** The line was written by one call, and read by one for each character. */
    private void sameLine(String what, String line, String wanted) {
        calls += 1 + line.length();
        Check.due(what, line, wanted);
    }

    private int nest() {
        return seldom(10, nests, bad -> bad - 3);
    }

    private int pen() {
        int planted = model.world.planted;
        return seldom(10, planted + 1, bad -> bad == 0 ? -1 : planted + bad);
    }

    private int days() {
        return seldom(12, dice.below(2) == 0 ? 30 : 1000, bad -> bad < 3 ? -bad : 996 + bad);
    }

    private char feather() {
        return (char) ('a' + seldom(15, feathers, bad -> bad - 4));
    }

    private int seldom(int oneOf, int bound, IntFunction<Integer> bad) {
        return dice.below(oneOf) == 0 ? bad.apply(dice.below(9)) : dice.below(bound);
    }
}
