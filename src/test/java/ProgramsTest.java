import java.util.regex.Matcher;
import java.util.regex.Pattern;

/** Promises 40 to 43: programs. */
public final class ProgramsTest {
    // The grammar once more, so that whether a text can go on is told by another machine.
    private static final String COMMAND = "(?:plant \\d[a-h]@N|pick \\d|sharpen N-N|blunt N\\+N|uproot N"
            + "|move N>\\d|merge \\d>\\d|order \\d|recall [a-h]|ink [a-h]\\+N)";
    private static final Pattern PROGRAM =
            Pattern.compile((COMMAND + "(?:;" + COMMAND + ")*").replace("N", "[0-9]{1,3}").replace("\\d", "[0-9]"));
    private static final String[] COMMANDS = {"plant 0a@5", "plant 9h@999", "pick 0", "sharpen 0-1",
        "sharpen 123-456", "blunt 7+00", "uproot 1", "uproot 999", "move 0>3", "move 12>9", "merge 1>2",
        "order 3", "recall a", "recall h", "ink b+7", "ink h+999"};
    private static final String SIGNS = "abchiz0359;@+-> plmosrue,\t";

    private ProgramsTest() {
    }

    public static void main(String[] args) {
        typing();
        everyCommand();
        allOrNone();
        failures();
        errorPositions();
        errorPositionsOfSpoiltTexts();
        cutTexts();
        recordsStay();
        longestPrograms();
        anyCharacter();
        Check.end();
    }

    private static void typing() {
        PenNursery x = new PenNursery();
        for (int i = 1; i <= 60; i++) {
            Check.due("type " + i, x.type('x'), i);
        }
        Check.thrown("type 61", Nursery.STATE, () -> x.type('x'));
        Check.thrown("type 61", Nursery.STATE, () -> x.type('p'));
        Check.thrown("run", Nursery.ARGUMENT, x::run);
        Check.due("errorPosition", x.errorPosition(), 0);
        Check.due("the buffer is empty after an error", x.type('p'), 1);
        Nursery.type(x, "ick 0");
        Check.thrown("run", Nursery.UNSUPPORTED, x::run);
        Check.due("the buffer is empty after a failure", x.type('o'), 1);
        Nursery.type(x, "rder 0");
        Check.due("run", x.run(), 1);
        Check.due("the buffer is empty after a run", x.type('p'), 1);
    }

    private static void everyCommand() {
        PenNursery x = new PenNursery();
        Check.due("plant", Nursery.run(x, "plant 0a@50;plant 0b@040;plant 0c@7"), 3);
        Check.due("nest", Nursery.nest(x, 0), "2c7 0a50 1b40");
        Check.due("ink", Nursery.run(x, "ink c+999;ink h+1"), 2);
        Check.due("stocks", Nursery.ink(x), "c999,h1");
        Check.due("pick", Nursery.run(x, "pick 0"), 1);
        Check.due("nest", Nursery.nest(x, 0), "1b40 0a50");
        Check.due("sharpen", Nursery.run(x, "sharpen 0-11"), 1);
        Check.due("nest", Nursery.nest(x, 0), "0a39 1b40");
        Check.due("blunt", Nursery.run(x, "blunt 000+100"), 1);
        Check.due("nest", Nursery.nest(x, 0), "1b40 0a139");
        Check.due("move", Nursery.run(x, "move 1>3"), 1);
        Check.due("nest", Nursery.nest(x, 3), "1b40");
        Check.due("merge", Nursery.run(x, "merge 0>3"), 1);
        Check.due("nest", Nursery.nest(x, 3), "1b40 0a139");
        Check.due("order", Nursery.run(x, "order 3"), 1);
        Check.due("exchanges", x.exchanges(), 5L);
        Check.due("uproot", Nursery.run(x, "uproot 1"), 1);
        Check.due("nest", Nursery.nest(x, 3), "0a139");
        Check.due("recall", Nursery.run(x, "recall a"), 1);
        Check.due("pens", x.pens(), 0);
        Check.due("a run is one change", x.undo(), 7);
        Check.due("nest", Nursery.nest(x, 3), "0a139");
    }

    private static void allOrNone() {
        PenNursery x = Nursery.planted(0, 5, 6);
        x.addInk('a', 3);
        String before = Nursery.state(x);
        Check.thrown("run", Nursery.UNSUPPORTED,
                () -> Nursery.run(x, "pick 0;plant 1b@1;merge 0>1;ink b+5;recall a;uproot 0"));
        Check.due("failedCommand", x.failedCommand(), 5);
        Check.due("state", Nursery.state(x), before);
        Check.due("a failed run is no change", x.undo(), 2);
        Check.due("ink", x.ink('a'), 0);
        Check.due("run", Nursery.run(x, "uproot 1;plant 2h@9;ink a+1;pick 0"), 4);
        String after = Nursery.state(x);
        Check.due("undo of a run", x.undo(), 2);
        Check.due("nest", Nursery.nest(x, 0), "0a5 1a6");
        Check.due("picked", x.picked(), 0);
        Check.due("run", Nursery.run(x, "uproot 1;plant 2h@9;ink a+1;pick 0"), 4);
        Check.due("the same state", Nursery.state(x), after);
    }

    private static void failures() {
        String[] failing = {"plant 4a@5", "plant 9a@5", "pick 4", "pick 1", "pick 0", "sharpen 2-1", "sharpen 0-0",
            "blunt 999+1", "blunt 0+000", "uproot 2", "move 2>1", "move 0>4", "move 0>0", "merge 4>0", "merge 0>4",
            "merge 2>2", "order 4", "ink a+0"};
        for (String text : failing) {
            PenNursery x = Nursery.planted(0, 5, 6);
            String before = Nursery.state(x);
            Check.thrown("run of " + text, Nursery.UNSUPPORTED, () -> Nursery.run(x, text));
            Check.due("failedCommand of " + text, x.failedCommand(), 0);
            Check.thrown("run behind another", Nursery.UNSUPPORTED, () -> Nursery.run(x, "ink b+1;" + text));
            Check.due("failedCommand behind another", x.failedCommand(), 1);
            Check.due("state", Nursery.state(x), before);
            Check.thrown("errorPosition", Nursery.ELEMENT, x::errorPosition);
        }
        PenNursery y = new PenNursery();
        for (int i = 0; i < 23; i++) {
            y.plant(0, 'a', 5);
        }
        Check.thrown("run with a pen too many", Nursery.UNSUPPORTED,
                () -> Nursery.run(y, "plant 1a@5;plant 1a@5"));
        Check.due("failedCommand", y.failedCommand(), 1);
        Check.due("pens", y.pens(), 23);
    }

    private static void errorPositions() {
        String[] texts = {"", "x", "p", "pl", "pi", "px", "pla", "plant", "plant ", "plant 0i", "plant 0a5",
            "plant 0a@", "plant 0a@1000", "plant  0a@1", "Plant 0a@1", "pick", "pick x", "pick 00", "pick 0;",
            "pick 0;;", "pick 0 ", "pick 0; pick 1", ";", "m", "mo", "me", "mx", "move 1>", "move 1>22",
            "move 1234>1", "merge 1>2>", "merge 12>3", "order", "orders", "recall i", "recall aa", "ink a", "ink a-1",
            "ink a+", "ink a+1;x", "sharpen -1", "sharpen 1+1", "blunt 1-1", "blunt 12+", "uproot a", "uproot 0001",
            "r", "s", "b", "u", "o", "i", "in", "ik", "re", "ro"};
        int[] positions = {0, 0, 1, 2, 2, 1, 3, 5, 6, 7, 8,
            9, 12, 6, 0, 4, 5, 6, 7,
            7, 6, 7, 0, 1, 2, 2, 1, 7, 8,
            8, 9, 7, 5, 5, 7, 8, 5, 5,
            6, 8, 8, 9, 7, 9, 7, 10,
            1, 1, 1, 1, 1, 1, 2, 1, 2, 1};
        Check.due("a position for each text", positions.length, texts.length);
        PenNursery x = Nursery.planted(0, 5, 6);
        String before = Nursery.state(x);
        for (int i = 0; i < texts.length; i++) {
            String text = texts[i];
            Check.due("error position by the pattern, of " + text, errorOf(text), positions[i]);
            Check.thrown("run of " + text, Nursery.ARGUMENT, () -> Nursery.run(x, text));
            Check.due("errorPosition of " + text, x.errorPosition(), positions[i]);
        }
        Check.due("state", Nursery.state(x), before);
        Check.due("no change", x.undo(), 1);
        Check.thrown("failedCommand", Nursery.ELEMENT, x::failedCommand);
    }

    private static void errorPositionsOfSpoiltTexts() {
        for (int i = 0; i < 20000; i++) {
            PenNursery x = new PenNursery();
            String text = spoiltText(i);
            int error = errorOf(text);
            Nursery.type(x, text);
            String answer = Check.answer(x::run);
            if (error < 0) {
                Check.due("no error in " + text, answer.equals(Nursery.ARGUMENT.getName()), false);
            } else {
                Check.due("run of " + text, answer, Nursery.ARGUMENT.getName());
                Check.due("errorPosition of " + text, x.errorPosition(), error);
            }
        }
    }

    // What the buffer held before, or would hold behind its end, must not be read.
    private static void cutTexts() {
        for (String command : COMMANDS) {
            for (int length = 0; length < command.length(); length++) {
                cutText(command, command.substring(0, length));
            }
        }
    }

    private static void cutText(String command, String cut) {
        PenNursery x = new PenNursery();
        Check.answer(() -> Nursery.run(x, command));
        Nursery.type(x, cut);
        String answer = Check.answer(x::run);
        Check.due("run of " + cut, answer.equals(Nursery.ARGUMENT.getName()), errorOf(cut) >= 0);
        Nursery.type(x, filled(60 - cut.length()) + cut);
        answer = Check.answer(x::run);
        Check.due("run of 60 and " + cut, answer.equals(Nursery.ARGUMENT.getName()), errorOf(cut) >= 0);
        if (errorOf(cut) >= 0) {
            Check.due("errorPosition", x.errorPosition(), 60);
        }
    }

    /** Commands with a semicolon behind each, of a length that sevens and eights can make. */
    private static String filled(int length) {
        int eights = length % 7;
        return "order 0;".repeat(eights) + "pick 0;".repeat((length - 8 * eights) / 7);
    }

    /** Some commands of which one sign may be replaced, left out, put in, or all behind it cut. */
    private static String spoiltText(int seed) {
        Dice dice = new Dice(seed);
        StringBuilder text = new StringBuilder(COMMANDS[dice.below(COMMANDS.length)]);
        for (int more = dice.below(4); more > 0; more--) {
            text.append(';').append(COMMANDS[dice.below(COMMANDS.length)]);
        }
        int at = dice.below(text.length());
        char sign = SIGNS.charAt(dice.below(SIGNS.length()));
        switch (dice.below(5)) {
            case 0:
                text.setCharAt(at, sign);
                break;
            case 1:
                text.insert(at, sign);
                break;
            case 2:
                text.deleteCharAt(at);
                break;
            case 3:
                text.setLength(at);
                break;
            default:
                break;
        }
        text.setLength(Math.min(60, text.length()));
        return text.toString();
    }

    /** The error position, or -1 for a program. */
    private static int errorOf(String text) {
        if (PROGRAM.matcher(text).matches()) {
            return -1;
        }
        for (int length = 1; length <= text.length(); length++) {
            Matcher matcher = PROGRAM.matcher(text.substring(0, length));
            if (!matcher.matches() && !matcher.hitEnd()) {
                return length - 1;
            }
        }
        return text.length();
    }

    private static void recordsStay() {
        PenNursery x = Nursery.planted(0, 5);
        x.save();
        Check.thrown("run", Nursery.ARGUMENT, () -> Nursery.run(x, "pick"));
        Check.thrown("run", Nursery.UNSUPPORTED, () -> Nursery.run(x, "ink a+1;pick 1"));
        Check.due("run", Nursery.run(x, "ink a+1"), 1);
        x.undo();
        Check.due("errorPosition after others", x.errorPosition(), 4);
        Check.due("failedCommand after others", x.failedCommand(), 1);
        Nursery.type(x, "pick ");
        x.restore();
        x.plant(1, 'a', 1);
        x.addInk('a', 1);
        Check.due("errorPosition after restore", x.errorPosition(), 4);
        Check.due("failedCommand after restore", x.failedCommand(), 1);
        Check.due("the buffer after restore", x.type('1'), 6);
        x.undo();
        x.addInk('a', 1);
        Check.due("run", x.run(), 1);
        Check.due("picked", x.picked(), 1);
        Check.thrown("run", Nursery.ARGUMENT, () -> Nursery.run(x, "ink a+1;"));
        Check.due("the latest errorPosition", x.errorPosition(), 8);
        Check.thrown("run", Nursery.UNSUPPORTED, () -> Nursery.run(x, "pick 1"));
        Check.due("the latest failedCommand", x.failedCommand(), 0);
    }

    private static void longestPrograms() {
        PenNursery x = Nursery.planted(0, 1, 2, 3, 4, 5, 6, 7, 8);
        x.addInk('a', 8);
        Check.due("8 commands", Nursery.run(x, "pick 0;pick 0;pick 0;pick 0;pick 0;pick 0;pick 0;pick 0"), 8);
        Check.due("picked", x.picked(), 8);
        Check.thrown("one of 7 fails", Nursery.UNSUPPORTED,
                () -> Nursery.run(x, "order 0;order 0;order 0;order 0;pick 0;order 0;order 0"));
        Check.due("failedCommand", x.failedCommand(), 4);
        Check.thrown("8 and the beginning of one more", Nursery.ARGUMENT,
                () -> Nursery.run(x, "pick 0;pick 0;pick 0;pick 0;pick 0;pick 0;pick 0;pick 0;plan"));
        Check.due("errorPosition", x.errorPosition(), 60);
        String text = "plant 3h@999;plant 3h@999;plant 3h@999;plant 3h@999;move 8>0";
        Check.due("60 characters", text.length(), 60);
        Check.due("run of 60 characters", Nursery.run(x, text), 5);
        Check.due("nest", Nursery.nest(x, 3), "9h999 11h999 10h999");
    }

    private static void anyCharacter() {
        int[] signs = {0, 9, 10, 127, 128, 160, 255, 256, 0x660, 0x661, 0xFF10, 0xD800, 0xFFFF, 'p' + 256, '0' + 256};
        for (int sign : signs) {
            PenNursery x = new PenNursery();
            Check.due("type " + sign, x.type((char) sign), 1);
            Check.thrown("run of " + sign, Nursery.ARGUMENT, x::run);
            Check.due("errorPosition of " + sign, x.errorPosition(), 0);
            Nursery.type(x, "order ");
            x.type((char) sign);
            Check.thrown("order " + sign, Nursery.ARGUMENT, x::run);
            Check.due("errorPosition of order " + sign, x.errorPosition(), 6);
            Nursery.type(x, "order 0");
            x.type((char) sign);
            Check.thrown("order 0 " + sign, Nursery.ARGUMENT, x::run);
            Check.due("errorPosition of order 0 " + sign, x.errorPosition(), 7);
        }
    }
}
