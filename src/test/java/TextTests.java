/** Promises 1 to 4: a new object, append, parse, errorPosition. */
final class TextTests {
    private static final String HEAD = "letters 2;machine a 5 1 2;";

    private TextTests() {
    }

    static void run() {
        newObject();
        append();
        parseAnswers();
        parseReplaces();
        badTokens();
        repeated();
        ranges();
        unknownMachines();
        fifthMachine();
        runsOfSigns();
        failedParseLeaves();
        errorPosition();
    }

    private static void newObject() {
        LetterAuction x = new LetterAuction();
        int[] due = {0, 1, 0, 0, 0, -1, 4, 1, 0};
        for (int what = 0; what < due.length; what++) {
            Check.same("new: size(" + what + ")", due[what], x.size(what));
        }
        Check.same("new: winner", -1, x.winner());
        Check.same("new: letter(0)", -1, x.letter(0));
        Check.same("new: log(0, 0)", -1, x.log(0, 0));
        Check.same("new: account(5)", 0, x.account(5));
        Check.same("new: errorPosition", -1, x.errorPosition());
        Check.same("new: sum(0)", 0, x.sum(0));
        Check.raisesIndex("new: sum(1)", () -> x.sum(1));
        Check.raisesIndex("new: machine(0, 0)", () -> x.machine(0, 0));
        Check.raisesArgument("new: parse(1)", () -> x.parse(1));
        Check.raisesState("new: restoreSnapshot(0)", () -> x.restoreSnapshot(0));
        Check.raisesState("new: restoreSnapshot(1)", () -> x.restoreSnapshot(1));
        Check.same("new: undo", -1, x.undo());
        for (int round = 1; round <= 8; round++) {
            x.play(1);
        }
        Check.same("without machines: rounds", 8, x.size(3));
        Check.same("without machines: silent rounds", 8, x.account(5));
        Check.same("without machines: turn", -1, x.size(5));
        Check.same("without machines: log letter", -1, x.log(0, 0));
        Check.same("without machines: log price", 0, x.log(0, 1));
        Check.same("without machines: log machines", 0, x.log(0, 2));
        Check.same("without machines: log round", 7, x.log(0, 3));
    }

    private static void append() {
        LetterAuction x = new LetterAuction();
        for (int length = 20; length <= 600; length += 20) {
            Check.same("append", length, x.append(0x20202020, 0x20202020, 0x20202020, 0x20202020, 0x20202020));
        }
        Check.same("append to a full buffer", -1, x.append(0, 0, 0, 0, 0));
        Check.same("append to a full buffer again", -1, x.append(1, 2, 3, 4, 5));
        Check.raisesArgument("parse(601)", () -> x.parse(601));
        Check.same("parse(600)", 1, x.parse(600));
        Check.same("end of 600 spaces", 600, x.errorPosition());
        Check.same("append after parse", 20, x.append(0, 0, 0, 0, 0));
        // The order of bytes: "letters 3;" and 10 spaces.
        LetterAuction y = new LetterAuction();
        y.append(0x6c657474, 0x65727320, 0x333b2020, 0x20202020, 0x20202020);
        Check.same("parse of bytes", 0, y.parse(20));
        Check.same("letters of bytes", 3, y.size(1));
        // A byte above 127 must not be taken for a sign by its lower bits.
        LetterAuction z = new LetterAuction();
        z.append(0x6c657474, 0x65727320, 0x333b20e1, 0x20202020, 0x20202020);
        Check.same("parse of a byte 225", 1, z.parse(20));
        Check.same("position of a byte 225", 11, z.errorPosition());
    }

    private static void parseAnswers() {
        LetterAuction x = new LetterAuction();
        Check.raisesArgument("parse(-1)", () -> x.parse(-1));
        Check.same("parse(0)", 1, x.parse(0));
        Check.same("parse(0) position", 0, x.errorPosition());
        Check.feed(x, "letters 1; letters 2;");
        Check.raisesArgument("parse(41)", () -> x.parse(41));
        Check.same("parse of a part", 0, x.parse(10));
        Check.raisesArgument("buffer is empty after success", () -> x.parse(1));
        Check.feed(x, "letters 12345");
        Check.same("a number cut by the length", 1, x.parse(9));
        Check.same("a number cut: the end", 9, x.errorPosition());
        Check.raisesArgument("buffer is empty after failure", () -> x.parse(1));
        Check.same("tokens without spaces", 0, Check.parse(x, "letters4;machine a0 1 1listens;turn20 0;"));
        Check.same("letters", 4, x.size(1));
        Check.same("rounds of a turn", 20, x.size(6));
        Check.same("price of a turn", 0, x.size(7));
        Check.same("listens", 1, x.machine(0, 4));
        Check.same("line feeds", 0, Check.parse(x, "\n\nletters\n2\n;\nmachine\nb\n1\n2\n3\n;\n"));
        Check.same("weight", 2, x.machine(0, 2));
        Check.same("leading zeros", 0, Check.parse(x, "letters 002;machine a 000 009 006;turn 001 000;"));
        Check.same("keywords as names", 0, Check.parse(x,
            "letters 1;machine machine 1 1 1;machine listens 1 1 2 listens;go listens 1 a 0;accept machine 0;"));
        Check.same("keywords as names: goes", 0, x.goes(1, 1, 0));
        Check.yes("keywords as names: accepts", x.isAccepting(0, 0));
    }

    private static void parseReplaces() {
        LetterAuction x = Check.of(HEAD + "go a 0 b 1;accept a 1;tire a 1 3;turn 1 2;machine b 6 2 1 listens;");
        x.play(3);
        x.setWeight(0, 9);
        x.saveSnapshot(0);
        x.saveSnapshot(1);
        Check.same("second parse", 0, Check.parse(x, HEAD));
        Check.same("undo after parse", -1, x.undo());
        Check.raisesState("slot 0 after parse", () -> x.restoreSnapshot(0));
        Check.raisesState("slot 1 after parse", () -> x.restoreSnapshot(1));
        Check.same("parsed again: all as if new", Whole.now(Check.of(HEAD)), Whole.now(x));
        Check.same("no goes", -1, x.goes(0, 0, 1));
        Check.no("no accepts", x.isAccepting(0, 1));
        Check.same("no listeners", 0, x.machine(0, 4));
    }

    private static void badTokens() {
        fails("", 1, 0);
        fails("   ", 1, 3);
        fails("letters", 1, 7);
        fails("letters 1", 1, 9);
        fails("letters 1 ", 1, 10);
        fails("letter 1;", 1, 0);
        fails("lettersx 1;", 1, 0);
        fails("letters a;", 1, 8);
        fails("letters;", 1, 7);
        fails("letters 1 1;", 1, 10);
        fails("letters 1;;", 1, 10);
        fails("letters 1;5", 1, 10);
        fails("letters 1;letters 1;", 1, 10);
        fails("letters 1;machines", 1, 10);
        fails("letters 1;machine", 1, 17);
        fails("letters 1;machine 1", 1, 18);
        fails("letters 1;machine ;", 1, 18);
        fails("letters 1;machine a b", 1, 20);
        fails("letters 1;machine a 1 1 1 listen;", 1, 26);
        fails("letters 1;machine a 1 1 1 listens listens;", 1, 34);
        fails("letters 1;machine a 1 1 1 1", 1, 26);
        fails("letters 1;machine a 1 1 1", 1, 25);
        fails("letters 1;machine a 1 1;", 1, 23);
        fails(HEAD + "go 1", 1, HEAD.length() + 3);
        fails(HEAD + "go a a", 1, HEAD.length() + 5);
        fails(HEAD + "go a 0 1", 1, HEAD.length() + 7);
        fails(HEAD + "go a 0 ;", 1, HEAD.length() + 7);
        fails(HEAD + "go a 0 a b", 1, HEAD.length() + 9);
        fails(HEAD + "go a 0 a 1 1", 1, HEAD.length() + 11);
        fails(HEAD + "accept 0", 1, HEAD.length() + 7);
        fails(HEAD + "accept a a", 1, HEAD.length() + 9);
        fails(HEAD + "accept a 0 0", 1, HEAD.length() + 11);
        fails(HEAD + "tire 0", 1, HEAD.length() + 5);
        fails(HEAD + "tire a a", 1, HEAD.length() + 7);
        fails(HEAD + "tire a 0;", 1, HEAD.length() + 8);
        fails(HEAD + "turn a", 1, HEAD.length() + 5);
        fails(HEAD + "turn 1 a", 1, HEAD.length() + 7);
        fails(HEAD + "turn 1;", 1, HEAD.length() + 6);
        fails(HEAD + "turn 1 1", 1, HEAD.length() + 8);
        // A semicolon that comes too early is not the end of the statement.
        String[] cut = {"machine", "machine b", "machine b 1", "machine b 1 1", "go", "go a", "go a 0", "go a 0 a", "accept",
            "accept a", "tire", "tire a", "tire a 0", "turn", "turn 1", ""};
        for (String part : cut) {
            fails(HEAD + part + ";", 1, HEAD.length() + part.length());
        }
    }

    private static void repeated() {
        fails(HEAD + "machine a 1 1 1;", 2, HEAD.length() + 8);
        fails(HEAD + "machine b 1 1 1;machine a", 2, HEAD.length() + 24);
        passes(HEAD + "machine aa 1 1 1;machine b 1 1 1;");
        fails(HEAD + "go a 0 b 0;go a 0 b 0", 2, HEAD.length() + 18);
        // The letter is looked at before the state behind it.
        fails(HEAD + "go a 0 b 0;go a 0 b 9", 2, HEAD.length() + 18);
        passes(HEAD + "go a 0 b 0;go a 0 a 0;go a 1 b 0;go a 1 a 1;");
        passes(HEAD + "machine b 1 1 1;go a 0 b 0;go b 0 b 0;");
        fails(HEAD + "accept a 1;accept a 1;", 2, HEAD.length() + 20);
        passes(HEAD + "machine b 1 1 2;accept a 1;accept a 0;accept b 1;accept b 0;");
        fails(HEAD + "tire a 1 1;tire a 1 0;", 2, HEAD.length() + 18);
        passes(HEAD + "machine b 1 1 2;tire a 1 1;tire a 0 1;tire b 1 1;tire b 0 1;");
        fails("letters 1;turn 1 1;turn", 2, 19);
        fails("letters 1;turn 1 1;turn 0 100;", 2, 19);
        passes("letters 1;turn 4 1;");
    }

    private static void ranges() {
        fails("letters 0;", 3, 8);
        fails("letters 5;", 3, 8);
        passes("letters 1;");
        passes("letters 4;");
        fails("letters 1;machine a 1 0", 3, 22);
        fails("letters 1;machine a 1 10", 3, 22);
        passes("letters 1;machine a 999 9 6;machine b 0 1 1;");
        fails("letters 1;machine a 1 1 0", 3, 24);
        fails("letters 1;machine a 1 1 7", 3, 24);
        fails(HEAD + "go a 2", 3, HEAD.length() + 5);
        fails(HEAD + "go a 0 c", 3, HEAD.length() + 7);
        fails(HEAD + "go a 0 aa", 3, HEAD.length() + 7);
        fails(HEAD + "go a 0 z", 3, HEAD.length() + 7);
        fails(HEAD + "go a 0 a 2", 3, HEAD.length() + 9);
        passes(HEAD + "go a 1 b 1;");
        fails(HEAD + "accept a 2", 3, HEAD.length() + 9);
        fails(HEAD + "tire a 2", 3, HEAD.length() + 7);
        fails(HEAD + "tire a 1 0", 3, HEAD.length() + 9);
        fails(HEAD + "tire a 1 100", 3, HEAD.length() + 9);
        passes(HEAD + "tire a 1 99;tire a 0 1;");
        fails(HEAD + "turn 0", 3, HEAD.length() + 5);
        fails(HEAD + "turn 21", 3, HEAD.length() + 5);
        fails(HEAD + "turn 20 100", 3, HEAD.length() + 8);
        passes(HEAD + "turn 20 99;");
        passes(HEAD + "turn 1 0;");
        // The range of a state is that of its own machine.
        fails(HEAD + "machine b 1 1 6;accept b 5;accept a 5;", 3, HEAD.length() + 36);
    }

    private static void unknownMachines() {
        fails("letters 1;go a 0", 4, 13);
        fails("letters 1;accept a", 4, 17);
        fails("letters 1;tire a", 4, 15);
        fails(HEAD + "go b 0 a 0;", 4, HEAD.length() + 3);
        fails(HEAD + "go aa 0 a 0;", 4, HEAD.length() + 3);
        fails(HEAD + "go b 0 a 0;machine b 1 1 1;", 4, HEAD.length() + 3);
    }

    private static void fifthMachine() {
        String four = "letters 1;machine a 1 1 1;machine b 1 1 1;machine c 1 1 1;machine d 1 1 1;";
        passes(four);
        fails(four + "machine", 5, four.length());
        fails(four + "machine a", 5, four.length());
        fails(four + "machine e 1 1 1;", 5, four.length());
        fails(four + "go d 0 a 0;machine 1", 5, four.length() + 11);
        fails(four + "machines", 1, four.length());
        fails(four + "machinesx", 1, four.length());
    }

    private static void runsOfSigns() {
        passes("letters 1;machine abcdefgh 1 1 1;go abcdefgh 0 a 0;");
        fails("letters 1;machine abcdefghi 1 1 1;", 1, 18);
        passes("letters 1;machine a 123 1 1;");
        fails("letters 1;machine a 1234 1 1;", 1, 20);
        fails("letters 0001;", 1, 8);
        fails("letters 99999999999999999999;", 1, 8);
        fails("lettersletters 1;", 1, 0);
        fails("Letters 1;", 1, 0);
        fails("letters\t1;", 1, 7);
        fails("letters 1;\r", 1, 10);
        fails("letters 1,", 1, 9);
        fails("letters -1;", 1, 8);
        fails("letters 1;\u0000", 1, 10);
        fails("letters 1;`", 1, 10);
        fails("letters 1;{", 1, 10);
        fails("letters /", 1, 8);
        fails("letters :", 1, 8);
        fails(HEAD + "go a 0 abcdefghi", 1, HEAD.length() + 7);
        fails(HEAD + "go abcdefghi", 1, HEAD.length() + 3);
        // 13 letters fill more than 64 bits, so that only the last 12 and a part of the first are seen.
        fails("aaaaaaaaaaaaaletters 1;", 1, 0);
        // A word is cut by a digit, and a number by a letter.
        fails("letters1a;", 1, 8);
        passes("letters 2;machine a1 1 1;go a0b0;accept a0;");
    }

    private static void failedParseLeaves() {
        LetterAuction x = Check.of(HEAD + "go a 0 b 1;go a 1 b 0;accept a 1;tire a 1 3;");
        x.play(2);
        x.saveSnapshot(1);
        x.setWeight(0, 3);
        String before = Whole.now(x);
        Check.same("a failing parse", 3, Check.parse(x, "letters 1;machine b 0 1 1;go b 0 a 0;accept b 0;turn 0 0;"));
        Check.same("picture after a failing parse", before, Whole.now(x));
        Check.same("goes after a failing parse", 1, x.goes(0, 0, 1));
        Check.same("undo after a failing parse", 1, x.undo());
        Check.same("slot after a failing parse", 2, x.restoreSnapshot(1));
        Check.raisesArgument("buffer after a failing parse", () -> x.parse(1));
    }

    private static void errorPosition() {
        LetterAuction x = new LetterAuction();
        Check.parse(x, "letters 9;");
        Check.same("position", 8, x.errorPosition());
        Check.raisesArgument("parse(1) of an empty buffer", () -> x.parse(1));
        Check.same("position after an exception", 8, x.errorPosition());
        x.play(1);
        x.undo();
        Check.same("position after a change", 8, x.errorPosition());
        Check.parse(x, "letters 4;");
        Check.same("position after a success", -1, x.errorPosition());
    }

    private static void fails(String text, int code, int position) {
        LetterAuction x = Check.of("letters 3;machine a 5 2 3 listens;go a 0 c 1;go a 1 c 2;accept a 2;tire a 2 9;turn 7 77;");
        x.play(2);
        x.saveSnapshot(0);
        String before = Whole.now(x);
        Check.same("parse of " + text, code, Check.parse(x, text));
        Check.same("position of " + text, position, x.errorPosition());
        Check.same("picture after parse of " + text, before, Whole.now(x));
        Check.same("slot after parse of " + text, 2, x.restoreSnapshot(0));
    }

    private static void passes(String text) {
        LetterAuction x = new LetterAuction();
        Check.same("parse of " + text, 0, Check.parse(x, text));
        Check.same("position of " + text, -1, x.errorPosition());
    }
}
