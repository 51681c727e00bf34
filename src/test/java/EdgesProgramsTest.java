/** Boundary cases of the grammar in the Terms and of the promises 40 to 43: programs. */
public final class EdgesProgramsTest {
    /** One of each kind, with numbers of one digit: no proper prefix of them is a program. */
    private static final String[] SHORTEST = {"plant 0a@0", "pick 0", "sharpen 0-0", "blunt 0+0", "uproot 0",
        "move 0>0", "merge 0>0", "order 0", "recall a", "ink a+0"};
    /** Texts, each with its error position behind it. */
    private static final String[] NEARLY_RIGHT = {"plick 0", "2", "pilant 0", "2", "picks 0", "4", "plants 0", "5",
        "shapren 0", "3", "blurt 0", "3", "uprood 0", "5", "mope 0", "2", "merve 0", "3", "mover 0", "4", "oder 0", "1",
        "reorder 0", "2", "recoll a", "3", "inc a", "2", "pick0", "4", "pick  0", "5", "PICK 0", "0", "Pick 0", "0",
        "addInk a+1", "0", "run", "1", "undo", "1", "save", "1", "plant0a@1", "5", "plant 0 a@1", "7",
        "plant 0a @1", "8", "plant 0a@ 1", "9", "sharpen 1+1", "9", "blunt 1-1", "7", "move 1-1", "6", "merge 1-1", "7",
        "ink a-1", "5", "ink a1", "5", "plant 0a1", "8"};
    /** Signs that stand nowhere in a program. */
    private static final char[] NO_SIGNS = {0, '#', 'Z', 'j', 127, 255, 256, Character.MAX_VALUE};

    /** A program of 60 characters: five commands, of which the last one needs the first one. */
    private static final String LONGEST = "plant 0a@001;plant 1b@002;plant 2c@003;plant 3d@004;move 0>1";

    /** Commands that all succeed in this order in quiet(). */
    private static final String[] GOOD = {"ink a+1", "order 0", "plant 0a@1", "pick 1", "merge 0>3"};

    private EdgesProgramsTest() {
    }

    public static void main(String[] args) {
        properPrefixes();
        firstWrongCharacters();
        wordsThatAreNearlyRight();
        digitsOfNumbers();
        numbersOfNoDigit();
        singleDigits();
        leastAndGreatestDigits();
        feathers();
        repetitions();
        commandsAreMethods();
        commandsThatFail();
        typeUpToTheLimit();
        typeIntoAFullBuffer();
        typeAnyCharacter();
        typeAfterARun();
        runOfNothing();
        runReturns();
        runOfFullBuffers();
        noneOfThem();
        allOfThem();
        laterCommandsSeeEarlierOnes();
        theBufferIsEmptyAfterwards();
        theOldTextIsNotRead();
        noProgramIsNotExecuted();
        noErrorPosition();
        errorPositionsFromEndToEnd();
        theLatestErrorPosition();
        noFailedCommand();
        failedCommandsFromEndToEnd();
        theLatestFailedCommand();
        Check.end();
    }

    /** The text is no program, and its error position is the one that is due; a number below 0 means none. */
    private static void error(String text, int position) {
        PenNursery x = new PenNursery();
        Nursery.type(x, text);
        String answer = Check.answer(x::run);
        if (position < 0) {
            Edge.due("a program: " + text, answer.equals(Nursery.ARGUMENT.getName()), false);
            Edge.due("errorPosition after " + text, Check.answer(x::errorPosition), Nursery.ELEMENT.getName());
        } else {
            Edge.due("run of " + text, answer, Nursery.ARGUMENT.getName());
            Edge.due("errorPosition of " + text, Check.answer(x::errorPosition), String.valueOf(position));
        }
    }

    /** As error, also for the text as the second and as the last of several commands. */
    private static void errorEverywhere(String text, int position) {
        for (String before : new String[] {"", "pick 0;", "recall h;sharpen 999-999;ink a+123;order 9;"}) {
            error(before + text, position < 0 ? position : before.length() + position);
        }
    }

    // ---- the grammar

    private static void properPrefixes() {
        Edge.terms("or the length of the text if the text is a proper prefix of a program");
        for (String command : SHORTEST) {
            for (int length = 0; length < command.length(); length++) {
                errorEverywhere(command.substring(0, length), length);
            }
            errorEverywhere(command, -1);
            errorEverywhere(command + ";", command.length() + 1);
        }
        errorEverywhere("sharpen 12", 10);
        errorEverywhere("sharpen 123", 11);
        errorEverywhere("sharpen 123-", 12);
    }

    private static void firstWrongCharacters() {
        Edge.terms("is the index of the first character at which no program can continue");
        for (String command : SHORTEST) {
            for (int index = 0; index <= command.length(); index++) {
                for (char sign : NO_SIGNS) {
                    String begun = command.substring(0, index) + sign;
                    errorEverywhere(begun, index);
                    errorEverywhere(begun + command.substring(index), index);
                }
            }
            errorEverywhere(" " + command, 0);
            errorEverywhere(command + " ", command.length());
            errorEverywhere(command + "; ", command.length() + 1);
        }
    }

    private static void wordsThatAreNearlyRight() {
        Edge.terms("is the index of the first character at which no program can continue");
        Edge.due("a word and its position", NEARLY_RIGHT.length % 2, 0);
        for (int i = 0; i < NEARLY_RIGHT.length; i += 2) {
            errorEverywhere(NEARLY_RIGHT[i], Integer.parseInt(NEARLY_RIGHT[i + 1]));
        }
    }

    private static void digitsOfNumbers() {
        Edge.terms("number = digit [ digit [ digit ] ]");
        String[] before = {"plant 0a@", "sharpen ", "sharpen 0-", "blunt ", "blunt 0+", "uproot ", "move ", "ink a+"};
        String[] after = {"", "-0", "", "+0", "", "", ">0", ""};
        for (int i = 0; i < before.length; i++) {
            int start = before[i].length();
            for (String number : new String[] {"0", "9", "00", "10", "99", "000", "001", "100", "999"}) {
                errorEverywhere(before[i] + number + after[i], -1);
            }
            for (String number : new String[] {"0000", "0001", "1000", "9999"}) {
                errorEverywhere(before[i] + number + after[i], start + 3);
            }
        }
    }

    private static void numbersOfNoDigit() {
        Edge.terms("number = digit [ digit [ digit ] ]");
        String[] before = {"plant 0a@", "sharpen ", "sharpen 0-", "blunt ", "blunt 0+", "uproot ", "move ", "ink a+"};
        String[] after = {"", "-0", "", "+0", "", "", ">0", ""};
        for (int i = 0; i < before.length; i++) {
            int start = before[i].length();
            errorEverywhere(before[i] + after[i], start);
            for (String number : new String[] {"-", "+", "-1", "+1", " 1", "a", "/", ":", ";", ".", "\u0660",
                "\uff10"}) {
                errorEverywhere(before[i] + number + after[i], start);
            }
            for (String number : new String[] {"1a", "1/", "1:", "1 ", "1.", "1\u0660", "1\uff10"}) {
                errorEverywhere(before[i] + number, start + 1);
                errorEverywhere(before[i] + "12" + number.substring(1), start + 2);
                errorEverywhere(before[i] + "123" + number.substring(1), start + 3);
            }
        }
    }

    private static void singleDigits() {
        Edge.terms("\"pick \" digit");
        String[] before = {"plant ", "pick ", "move 0>", "merge ", "merge 0>", "order "};
        String[] after = {"a@0", "", "", ">0", "", ""};
        for (int i = 0; i < before.length; i++) {
            int start = before[i].length();
            errorEverywhere(before[i] + "0" + after[i], -1);
            errorEverywhere(before[i] + "9" + after[i], -1);
            errorEverywhere(before[i] + after[i], start);
            errorEverywhere(before[i] + "00" + after[i], start + 1);
            errorEverywhere(before[i] + "12" + after[i], start + 1);
            errorEverywhere(before[i] + "-1" + after[i], start);
        }
    }

    private static void leastAndGreatestDigits() {
        Edge.terms("\"order \" digit");
        for (int sign = 0; sign <= 127; sign++) {
            boolean digit = sign >= 48 && sign <= 57;
            errorEverywhere("order " + (char) sign, digit ? -1 : 6);
            errorEverywhere("uproot " + (char) sign, digit ? -1 : 7);
            if (sign != ';') {
                errorEverywhere("ink a+1" + (char) sign + "1", digit ? -1 : 7);
            }
        }
    }

    private static void feathers() {
        Edge.terms("where a feather is a letter from a to h");
        for (int sign = 0; sign <= 300; sign++) {
            boolean feather = sign >= 97 && sign <= 104;
            errorEverywhere("plant 0" + (char) sign + "@1", feather ? -1 : 7);
            errorEverywhere("recall " + (char) sign, feather ? -1 : 7);
            errorEverywhere("ink " + (char) sign + "+1", feather ? -1 : 4);
        }
        errorEverywhere("plant 0ab@1", 8);
        errorEverywhere("recall aa", 8);
        errorEverywhere("ink aa+1", 5);
    }

    private static void repetitions() {
        Edge.terms("program = command { \";\" command");
        error("", 0);
        error(";", 0);
        error("pick 0", -1);
        error("pick 0;", 7);
        error("pick 0;;", 7);
        error(";pick 0", 0);
        error("pick 0;;pick 0", 7);
        error("pick 0,pick 0", 6);
        error("pick 0pick 0", 6);
        error("pick 0\npick 0", 6);
        error("pick 0 ;pick 0", 6);
        StringBuilder text = new StringBuilder("pick 0");
        for (int commands = 2; commands <= 8; commands++) {
            error(text + ";", text.length() + 1);
            text.append(";pick 0");
            error(text.toString(), -1);
        }
        error(text + ";", 56);
        error(text + ";pick", 60);
        error(text + ";x", 56);
        error(text + ";puck", 57);
    }

    private static void commandsAreMethods() {
        Edge.terms("The commands correspond to plant(nest, feather, date), pick(nest), sharpen(pen, days), blunt(pen,"
                + " days), uproot(pen), move(pen, nest), merge(from, to), reorder(nest), recall(feather) and"
                + " addInk(feather, drops).");
        String[] texts = {"plant 0a@0", "plant 3h@999", "plant 3h@000", "pick 0", "pick 1", "sharpen 1-1",
            "sharpen 005-999", "sharpen 6-1", "blunt 2+1", "blunt 06+999", "blunt 5+9", "uproot 1", "uproot 006",
            "move 1>3", "move 6>0", "merge 0>3", "merge 3>0", "order 0", "order 3", "recall a", "recall h", "ink a+1",
            "ink h+999", "ink b+001"};
        Edge.Call[] calls = {x -> x.plant(0, 'a', 0), x -> x.plant(3, 'h', 999), x -> x.plant(3, 'h', 0),
            x -> x.pick(0), x -> x.pick(1), x -> x.sharpen(1, 1),
            x -> x.sharpen(5, 999), x -> x.sharpen(6, 1), x -> x.blunt(2, 1), x -> x.blunt(6, 999), x -> x.blunt(5, 9),
            x -> x.uproot(1), x -> x.uproot(6),
            x -> x.move(1, 3), x -> x.move(6, 0), x -> x.merge(0, 3), x -> x.merge(3, 0), x -> x.reorder(0),
            x -> x.reorder(3), x -> x.recall('a'), x -> x.recall('h'), x -> x.addInk('a', 1),
            x -> x.addInk('h', 999), x -> x.addInk('b', 1)};
        Edge.due("a call for each text", calls.length, texts.length);
        for (int i = 0; i < texts.length; i++) {
            PenNursery run = Edge.quiet();
            Edge.due("run of " + texts[i], Nursery.run(run, texts[i]), 1);
            PenNursery called = Edge.quiet();
            calls[i].on(called);
            Edge.due("state after " + texts[i], Nursery.state(run), Nursery.state(called));
            Edge.due("the next number after " + texts[i], run.plant(1, 'a', 1), called.plant(1, 'a', 1));
            Edge.due("undo of " + texts[i], run.undo() + run.undo(), 13);
            Edge.due("state then", Nursery.state(run), Nursery.state(Edge.quiet()));
        }
    }

    private static void commandsThatFail() {
        Edge.promise(41, "Throws `UnsupportedOperationException` if a command fails, that is, if the method for it"
                + " throws an exception");
        String[] texts = {"plant 4a@0", "plant 9h@999", "pick 4", "pick 9", "pick 3", "pick 2", "sharpen 0-1",
            "sharpen 7-1", "sharpen 999-1", "sharpen 1-0", "sharpen 1-000", "blunt 0+1", "blunt 7+1", "blunt 999+999",
            "blunt 1+0", "uproot 0", "uproot 7", "uproot 999", "move 0>1", "move 7>1", "move 1>4", "move 1>9",
            "move 1>0", "merge 4>0", "merge 0>4", "merge 9>9", "merge 0>0", "merge 3>3", "order 4", "order 9",
            "ink a+0", "ink h+000"};
        for (String text : texts) {
            PenNursery x = Edge.quiet();
            Edge.thrown("run of " + text, Nursery.UNSUPPORTED, () -> Nursery.run(x, text));
            Edge.due("failedCommand of " + text, x.failedCommand(), 0);
            Edge.refusedRun(text, Nursery.UNSUPPORTED, Edge::quiet);
            Edge.refusedRun("ink a+1;" + text, Nursery.UNSUPPORTED, Edge::quiet);
        }
        Edge.refusedRun("plant 0a@0", Nursery.UNSUPPORTED, Edge::full);
    }

    // ---- promise 40

    private static void typeUpToTheLimit() {
        Edge.promise(40, "Returns the number of characters in the buffer afterwards.");
        PenNursery x = new PenNursery();
        for (int i = 1; i <= 60; i++) {
            Edge.due("type " + i, x.type((char) (i * 1000)), i);
        }
        Edge.thrown("type 61", Nursery.STATE, () -> x.type('a'));
    }

    private static void typeIntoAFullBuffer() {
        Edge.promise(40, "Throws `IllegalStateException` if the buffer contains 60 characters");
        Edge.due("60 characters", LONGEST.length(), 60);
        PenNursery almost = Edge.withText(LONGEST.substring(0, 59));
        Edge.due("the 60th character", almost.type('1'), 60);
        Edge.due("run of 60 characters", almost.run(), 5);
        for (char sign : new char[] {0, ';', '0', 'a', Character.MAX_VALUE}) {
            Edge.refused("the 61st character " + (int) sign, Nursery.STATE, () -> Edge.withText(LONGEST),
                    x -> x.type(sign));
            Edge.refused("the 61st character of no program " + (int) sign, Nursery.STATE,
                    () -> Edge.withText("pick 0;".repeat(8) + "pick"), x -> x.type(sign));
        }
        PenNursery x = Edge.withText(LONGEST);
        for (int i = 0; i < 3; i++) {
            Edge.thrown("the 61st character", Nursery.STATE, () -> x.type('2'));
        }
        Edge.due("run of the 60 characters", x.run(), 5);
        Edge.due("the last character counts", x.nestOf(0), 1);
        Edge.due("type after that run", x.type('p'), 1);
    }

    private static void typeAnyCharacter() {
        Edge.promise(40, "Appends a character to the program buffer.");
        for (int sign : new int[] {0, 1, 10, 13, 127, 128, 255, 256, 0xD800, 0xDFFF, 0xFFFE, 0xFFFF}) {
            PenNursery x = Edge.withText("order 0");
            Edge.due("type " + sign, x.type((char) sign), 8);
            Edge.thrown("run with " + sign, Nursery.ARGUMENT, x::run);
            Edge.due("errorPosition", x.errorPosition(), 7);
        }
        // Signs of which only the low bits are those of a sign of the grammar.
        for (int more : new int[] {128, 256, 512, 0x8000, 0xFF00}) {
            error("order " + (char) ('0' + more), 6);
            error("recall " + (char) ('a' + more), 7);
            error("order 0" + (char) (';' + more) + "order 0", 7);
            error((char) ('p' + more) + "ick 0", 0);
        }
    }

    private static void typeAfterARun() {
        Edge.promise(40, "Returns the number of characters in the buffer afterwards.");
        PenNursery x = Edge.withText(LONGEST);
        x.run();
        for (int i = 1; i <= 60; i++) {
            Edge.due("type after a run of 60", x.type(';'), i);
        }
        Edge.thrown("type 61", Nursery.STATE, () -> x.type(';'));
        Edge.thrown("run", Nursery.ARGUMENT, x::run);
        Edge.due("type after no program", x.type('p'), 1);
    }

    // ---- promise 41

    private static void runOfNothing() {
        Edge.promise(41, "Throws `IllegalArgumentException` if the text is not a program;"
                + " its error position is recorded");
        PenNursery x = new PenNursery();
        Edge.thrown("an empty buffer", Nursery.ARGUMENT, x::run);
        Edge.due("errorPosition", x.errorPosition(), 0);
        Edge.refusedRun("", Nursery.ARGUMENT, Edge::quiet);
        Edge.refusedRun("", Nursery.ARGUMENT, PenNursery::new);
        PenNursery y = Nursery.planted(0, 5);
        Edge.due("a run", Nursery.run(y, "order 0"), 1);
        Edge.thrown("the emptied buffer", Nursery.ARGUMENT, y::run);
        Edge.due("errorPosition", y.errorPosition(), 0);
    }

    private static void runReturns() {
        Edge.promise(41, "Returns the number of commands.");
        StringBuilder text = new StringBuilder();
        for (int commands = 1; commands <= 8; commands++) {
            text.append(commands == 1 ? "" : ";").append("pick 0");
            PenNursery x = Nursery.planted(0, 1, 2, 3, 4, 5, 6, 7, 8);
            x.addInk('a', 8);
            Edge.due("run of " + text, Nursery.run(x, text.toString()), commands);
            Edge.due("picked", x.picked(), commands);
            Edge.due("undo of one change", x.undo(), 7);
            Edge.due("picked then", x.picked(), 0);
        }
        for (String command : new String[] {"order 3", "recall h", "ink a+999", "merge 0>3"}) {
            Edge.due("run of " + command, Nursery.run(new PenNursery(), command), 1);
        }
    }

    private static void runOfFullBuffers() {
        Edge.promise(41, "Parses the program buffer and executes the commands in order");
        PenNursery x = new PenNursery();
        Edge.due("60 characters", Nursery.run(x, LONGEST), 5);
        Edge.due("the first nest", Nursery.nest(x, 0), "");
        Edge.due("the second nest", Nursery.nest(x, 1), "0a1 1b2");
        Edge.due("the last nest", Nursery.nest(x, 3), "3d4");
        Edge.refusedRun("pick 0;".repeat(8) + "pick", Nursery.ARGUMENT, Edge::full);
        Edge.refusedRun("x".repeat(60), Nursery.ARGUMENT, Edge::full);
        Edge.refusedRun(LONGEST.substring(0, 58) + ">4", Nursery.UNSUPPORTED, Edge::quiet);
    }

    private static void noneOfThem() {
        Edge.promise(41, "the number of this command, counted from 0, is recorded");
        for (int failing = 0; failing <= GOOD.length; failing++) {
            StringBuilder text = new StringBuilder();
            for (int i = 0; i <= GOOD.length; i++) {
                text.append(i == 0 ? "" : ";");
                text.append(i == failing ? "pick 9" : GOOD[i < failing ? i : i - 1]);
            }
            PenNursery x = Edge.quiet();
            Edge.thrown("run of " + text, Nursery.UNSUPPORTED, () -> Nursery.run(x, text.toString()));
            Edge.due("failedCommand of " + text, x.failedCommand(), failing);
            Edge.refusedRun(text.toString(), Nursery.UNSUPPORTED, Edge::quiet);
        }
    }

    private static void allOfThem() {
        Edge.promise(41, "either all of them or, if one of them fails, none");
        PenNursery y = Edge.quiet();
        Edge.due("all of them", Nursery.run(y, String.join(";", GOOD)), 5);
        Edge.due("nest 3", y.size(3), 4);
        Edge.due("are one change", y.undo(), 7);
        Edge.due("state", Nursery.state(y), Nursery.state(Edge.quiet()));
    }

    private static void laterCommandsSeeEarlierOnes() {
        Edge.promise(41, "executes the commands in order");
        Edge.due("a pen that is planted before", Nursery.run(new PenNursery(), "plant 0a@1;uproot 0"), 2);
        Edge.refusedRun("uproot 0;plant 0a@1", Nursery.UNSUPPORTED, PenNursery::new);
        Edge.due("ink that is added before", Nursery.run(Nursery.planted(0, 5), "ink a+1;pick 0"), 2);
        Edge.refusedRun("pick 0;ink a+1", Nursery.UNSUPPORTED, () -> Nursery.planted(0, 5));
        Edge.refusedRun("ink a+1;pick 0;pick 0", Nursery.UNSUPPORTED, () -> Nursery.planted(0, 5, 6));
        Edge.refusedRun("move 0>1;move 0>1", Nursery.UNSUPPORTED, () -> Nursery.planted(0, 5));
        Edge.refusedRun("uproot 0;uproot 0", Nursery.UNSUPPORTED, () -> Nursery.planted(0, 5));
        Edge.refusedRun("recall a;pick 0", Nursery.UNSUPPORTED, () -> Nursery.planted(0, 5));
    }

    private static void theBufferIsEmptyAfterwards() {
        Edge.promise(41, "The buffer is empty afterwards in every case.");
        String[] texts = {"order 0", "pick 9", "order 0;pick 9", "x", "", "order 0;", LONGEST, "x".repeat(60)};
        for (String text : texts) {
            PenNursery x = Edge.quiet();
            Check.answer(() -> Nursery.run(x, text));
            Edge.due("type after " + text, x.type('o'), 1);
            Nursery.type(x, "rder 0");
            Edge.due("run after " + text, x.run(), 1);
            Edge.due("type after that", x.type('o'), 1);
        }
    }

    private static void theOldTextIsNotRead() {
        Edge.promise(41, "The buffer is empty afterwards in every case.");
        for (String command : SHORTEST) {
            for (int length = 0; length < command.length(); length++) {
                String beginning = command.substring(0, length);
                PenNursery x = new PenNursery();
                Check.answer(() -> Nursery.run(x, command + ";" + command));
                Edge.thrown("what the old text would complete: " + beginning, Nursery.ARGUMENT,
                        () -> Nursery.run(x, beginning));
                Edge.due("errorPosition of " + beginning, x.errorPosition(), length);
            }
        }
    }

    private static void noProgramIsNotExecuted() {
        Edge.promise(41, "Throws `IllegalArgumentException` if the text is not a program;"
                + " its error position is recorded");
        for (String text : new String[] {"ink a+5;x", "ink a+5;", "plant 0a@1;uproot 1;pick", "recall a;;",
            "ink a+1000", "plant 0a@1000", "order 10", "pick 0;plant 0i@1", "pick 0 "}) {
            Edge.refusedRun(text, Nursery.ARGUMENT, Edge::quiet);
            PenNursery x = Edge.quiet();
            Check.answer(() -> Nursery.run(x, text));
            Edge.due("failedCommand stays, after " + text, x.failedCommand(), 1);
        }
    }

    // ---- promise 42

    private static void noErrorPosition() {
        Edge.promise(42, "Throws `NoSuchElementException` if there was no such text");
        Edge.Recipe[] recipes = {PenNursery::new, Edge::full, () -> Edge.withText("pick"), () -> {
            PenNursery x = Edge.withText("order 0");
            x.run();
            return x;
        }, () -> {
            PenNursery x = new PenNursery();
            Check.answer(() -> Nursery.run(x, "order 0;pick 0"));
            return x;
        }, () -> {
            PenNursery x = Edge.withText(LONGEST);
            Check.answer(() -> x.type('x'));
            return x;
        }};
        for (int i = 0; i < recipes.length; i++) {
            Edge.refused("object " + i, Nursery.ELEMENT, recipes[i], PenNursery::errorPosition);
        }
    }

    private static void errorPositionsFromEndToEnd() {
        Edge.promise(42, "Returns the error position.");
        String text = "pick 0;".repeat(8) + "pick";
        for (int length = 0; length <= 60; length++) {
            boolean program = length % 7 == 6;
            error(text.substring(0, length), program ? -1 : length);
            if (length < 60) {
                error(text.substring(0, length) + "x".repeat(60 - length), length);
            }
        }
    }

    private static void theLatestErrorPosition() {
        Edge.promise(42, "Returns the recorded error position of the latest text that was not a program.");
        PenNursery x = Edge.withText("pick");
        Edge.thrown("run", Nursery.ARGUMENT, x::run);
        Edge.due("the first one", x.errorPosition(), 4);
        Edge.thrown("run", Nursery.ARGUMENT, x::run);
        Edge.due("a smaller one, of 0", x.errorPosition(), 0);
        Edge.thrown("run", Nursery.ARGUMENT, () -> Nursery.run(x, "order 0;"));
        Edge.due("a greater one", x.errorPosition(), 8);
        Edge.due("run", Nursery.run(x, "order 0;order 1"), 2);
        Edge.due("after a program", x.errorPosition(), 8);
        Edge.thrown("run", Nursery.UNSUPPORTED, () -> Nursery.run(x, "order 0;order 1;pick 1"));
        Edge.due("after a program that fails", x.errorPosition(), 8);
        Edge.due("asked again", x.errorPosition(), 8);
        Edge.changesNothing("errorPosition", Edge::busy, PenNursery::errorPosition);
    }

    // ---- promise 43

    private static void noFailedCommand() {
        Edge.promise(43, "Throws `NoSuchElementException` if no command failed");
        Edge.Recipe[] recipes = {PenNursery::new, Edge::full, () -> Edge.withText("pick 9"), () -> {
            PenNursery x = Edge.withText("order 0");
            x.run();
            return x;
        }, () -> {
            PenNursery x = new PenNursery();
            Check.answer(() -> Nursery.run(x, "pick 9;order"));
            return x;
        }, () -> {
            // That a call fails which is no command is no failed command.
            PenNursery x = new PenNursery();
            Check.answer(() -> x.pick(0));
            return x;
        }};
        for (int i = 0; i < recipes.length; i++) {
            Edge.refused("object " + i, Nursery.ELEMENT, recipes[i], PenNursery::failedCommand);
        }
    }

    private static void failedCommandsFromEndToEnd() {
        Edge.promise(43, "Returns the number of the command.");
        for (int failing = 0; failing < 8; failing++) {
            for (int behind = 0; behind < 8 - failing; behind++) {
                PenNursery x = Nursery.planted(0, 1, 2, 3, 4, 5, 6, 7);
                x.addInk('a', 7);
                String text = "pick 0;".repeat(failing) + "pick 1" + ";pick 0".repeat(behind);
                Edge.thrown("run of " + text, Nursery.UNSUPPORTED, () -> Nursery.run(x, text));
                Edge.due("failedCommand of " + text, x.failedCommand(), failing);
                Edge.due("pens", x.pens(), 7);
            }
        }
        PenNursery y = new PenNursery();
        Edge.thrown("run", Nursery.UNSUPPORTED, () -> Nursery.run(y, "order 0;pick 1;order 2;pick 3"));
        Edge.due("the first one of two that would fail", y.failedCommand(), 1);
    }

    private static void theLatestFailedCommand() {
        Edge.promise(43, "Returns the recorded number of the latest command that failed in a program.");
        PenNursery x = new PenNursery();
        Edge.thrown("run", Nursery.UNSUPPORTED, () -> Nursery.run(x, "order 0;order 0;pick 0"));
        Edge.due("the first one", x.failedCommand(), 2);
        Edge.thrown("run", Nursery.UNSUPPORTED, () -> Nursery.run(x, "pick 0"));
        Edge.due("a smaller one, of 0", x.failedCommand(), 0);
        Edge.thrown("run", Nursery.UNSUPPORTED, () -> Nursery.run(x, "order 0;pick 0"));
        Edge.due("a greater one", x.failedCommand(), 1);
        Edge.due("run", Nursery.run(x, "order 0;order 1"), 2);
        Edge.due("after a program", x.failedCommand(), 1);
        Edge.thrown("run", Nursery.ARGUMENT, () -> Nursery.run(x, "pick 0;x"));
        Edge.due("after no program", x.failedCommand(), 1);
        Edge.thrown("a call that is no command", Nursery.ELEMENT, () -> x.pick(0));
        Edge.due("after it", x.failedCommand(), 1);
        Edge.changesNothing("failedCommand", Edge::busy, PenNursery::failedCommand);
    }
}
