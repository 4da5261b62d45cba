/** Promises 1 to 4, and the Description's TEXT, at their boundaries. */
final class TextBoundaries {
    private static final String HEAD = "letters 2;machine p 5 2 3;machine q 6 1 2;";
    private static final String NAMES = "pqrst";

    private TextBoundaries() {
    }

    static void run() {
        mostBytes();
        gaps();
        everyByte();
        lengthsOfRuns();
        veryLongRuns();
        beginning();
        statements();
        anyName();
        earlierMachines();
        letters();
        numbersOfHead();
        numbersOfMachines();
        numbersOfStates();
        numbersOfTires();
        numbersOfTurns();
        fourMachines();
        whatStatementsTell();
        oneTurn();
        newObject();
        append();
        parseOfPart();
        parseEmptiesBuffer();
        parseReplaces();
        errorPosition();
        smallestPosition();
        smallestCode();
        positionOfToken();
    }

    private static void mostBytes() {
        Sentences.about(3, "TEXT", "An auction is described by a text of at most 600 bytes.");
        String text = "letters 1;" + " ".repeat(575) + "machine p 7 8 5";
        fails(text, 1, 600);
        text = "letters 1;" + " ".repeat(574) + "machine p 7 8 5;";
        Check.same("coins told in byte 594", 7, passes(text).machine(0, 1));
        fails(text.substring(0, 599), 1, 599);
        fails(text.substring(0, 599) + "!", 1, 599);
        passes(text.substring(0, 584) + " ".repeat(16));
        LetterAuction x = new LetterAuction();
        Check.feed(x, text);
        Check.same("bytes 601 to 620", -1, x.append(0, 0, 0, 0, 0));
        Check.raisesArgument("parse(601)", () -> x.parse(601));
        Check.same("parse(600)", 0, x.parse(600));
        // As many tokens as bytes: each byte has one of its own.
        fails(";".repeat(600), 1, 0);
        fails("letters1;" + ";".repeat(591), 1, 9);
    }

    private static void gaps() {
        Sentences.about(3, "TEXT", "Spaces (byte 32) and line feeds (byte 10) separate tokens and are otherwise ignored.");
        Check.same("no gaps", 3, passes("letters2;machine p5 7 3;").machine(0, 3));
        Check.same("gaps everywhere", 3, passes(" \nletters\n\n2 \n ;\nmachine  p\n5 7\n3 ; \n").machine(0, 3));
        fails("letters 2;mach ine p 5 7 3;", 1, 10);
        fails("letters 2;mach\nine p 5 7 3;", 1, 10);
        fails("letters 2;machine p 5 7 1 1;", 1, 26);
        fails("\n letters 9;", 3, 10);
        fails(" \n  \n", 1, 5);
    }

    /** Each of the 256 bytes behind a number, and in the middle of a name. */
    private static void everyByte() {
        Sentences.about(3, "TEXT", "A longer run, and any other byte, is an invalid token.");
        for (int one = 0; one < 256; one++) {
            String number = "letters 2" + (char) one + ";";
            String name = "letters 2;machine p" + (char) one + "q 1 2 3;";
            if (one == ' ' || one == '\n') {
                passes(number);
                fails(name, 1, 20);
            } else if (one >= '0' && one <= '9') {
                fails(number, 3, 8);
                fails(name, 1, 20);
            } else if (one >= 'a' && one <= 'z') {
                fails(number, 1, 9);
                passes(name);
            } else {
                fails(number, 1, one == ';' ? 10 : 9);
                fails(name, 1, 19);
            }
        }
    }

    private static void lengthsOfRuns() {
        Sentences.about(3, "TEXT", "A token is a word (a maximal run of letters a to z, 1 to 8 letters), "
            + "a number (a maximal run of digits, 1 to 3 digits) or a semicolon.");
        for (int length = 1; length <= 8; length++) {
            String name = "z".repeat(length);
            passes("letters 1;machine " + name + " 1 1 1;accept " + name + " 0;");
        }
        fails("letters 1;machine zzzzzzzzz 1 1 1;", 1, 18);
        fails("letters 1;machine aaaaaaaaaa 1 1 1;", 1, 18);
        int[] due = {4, 42, 420};
        String[] numbers = {"4", "42", "420"};
        for (int i = 0; i < due.length; i++) {
            Check.same("coins", due[i], passes("letters 1;machine p " + numbers[i] + " 1 1;").machine(0, 1));
        }
        fails("letters 1;machine p 4200 1 1;", 1, 20);
        Check.same("zeros before a number", 4, passes("letters 1;machine p 004 1 1;").machine(0, 1));
        fails("letters 1;machine p 0004 1 1;", 1, 20);
        // A run that the length cuts to 8 letters or 3 digits is no longer one.
        fails("letters 1;machine zzzzzzzzz", 26, 1, 26);
        fails("letters 1;machine zzzzzzzzz", 27, 1, 18);
        fails("letters 9999", 11, 3, 8);
        fails("letters 9999", 12, 1, 8);
    }

    /** Runs of which only the last signs would count if numbers of 64 bits wrapped round. */
    private static void veryLongRuns() {
        Sentences.about(3, "TEXT", "A longer run, and any other byte, is an invalid token.");
        fails("letters 18446744073709551617;", 1, 8);
        fails("letters 4294967297;", 1, 8);
        fails("letters " + "0".repeat(200) + "1;", 1, 8);
        fails("a".repeat(300), 1, 0);
        for (int length = 9; length <= 40; length++) {
            fails("p".repeat(length) + "letters 1;", 1, 0);
            fails(HEAD + "accept " + "p".repeat(length) + " 0;", 1, HEAD.length() + 7);
        }
    }

    private static void beginning() {
        Sentences.about(3, "TEXT", "auction = \"letters\" count \";\" { statement \";\" }");
        passes("letters 1;");
        passes("letters 1;turn 1 1;");
        passes("letters 1;turn 1 1;machine p 1 1 1;");
        everyWrongToken("", "letters", "keyword");
        everyWrongToken("letters ", "1", "number");
        everyWrongToken("letters 1 ", ";", "semicolon");
        fails("letters 1;;", 1, 10);
        fails("letters 1;turn 1 1;;", 1, 19);
    }

    /** At each place of each statement: every token of another kind, an invalid one, and the end of the text. */
    private static void statements() {
        Sentences.about(3, "TEXT", "statement = \"machine\" name coins weight states [ \"listens\" ] "
            + "| \"go\" machine state letter state | \"accept\" machine state | \"tire\" machine state times | \"turn\" rounds price");
        places("machine r 1 2 3 ;", "keyword name number number number listens");
        places("machine r 1 2 3 listens ;", "keyword name number number number listens semicolon");
        places("go p 1 b 2 ;", "keyword machine number letter number semicolon");
        places("accept p 1 ;", "keyword machine number semicolon");
        places("tire p 1 2 ;", "keyword machine number number semicolon");
        places("turn 1 2 ;", "keyword number number semicolon");
        Check.same("it listens", 1, passes("letters 1;machine r 1 2 3 listens;").machine(0, 4));
        Check.same("it does not listen", 0, passes("letters 1;machine r 1 2 3;").machine(0, 4));
    }

    private static void places(String statement, String kinds) {
        String[] tokens = statement.split(" ");
        String[] kind = kinds.split(" ");
        passes(HEAD + statement);
        StringBuilder before = new StringBuilder(HEAD);
        for (int i = 0; i < kind.length; i++) {
            everyWrongToken(before.toString(), tokens[i], kind[i]);
            before.append(tokens[i]).append(' ');
        }
    }

    private static void everyWrongToken(String before, String right, String kind) {
        int at = before.length();
        boolean isNumber = kind.equals("number");
        if (isNumber) {
            Sentences.about(3, "TEXT", "all other items that are not quoted are numbers.");
            fails(before + "letters", 1, at);
            fails(before + "a 1;", 1, at);
        }
        Sentences.about(3, "TEXT", "1: an invalid token, a token that the grammar does not allow at this place, "
            + "or a text that ends too early.");
        boolean isEnd = kind.equals("semicolon") || kind.equals("listens");
        if (!isNumber) {
            fails(before + "1", 1, at);
            fails(before + "0 1 1;", 1, at);
        }
        if (!isEnd) {
            fails(before + ";", 1, at);
        }
        if (isNumber || isEnd) {
            fails(before + "x", 1, at);
            fails(before + "machine", 1, at);
        }
        if (kind.equals("keyword")) {
            fails(before + right + "x", 1, at);
            fails(before + right.substring(1), 1, at);
            fails(before + "x", 1, at);
        }
        if (!kind.equals("listens") && !kind.equals("name") && !kind.equals("machine") && !kind.equals("letter")) {
            fails(before + "listens", 1, at);
        }
        // A text may end behind a semicolon alone.
        if (!kind.equals("keyword")) {
            fails(before, 1, at);
            fails(before + "   ", 1, at + 3);
        }
        for (String invalid : new String[] {"!", "Letters", "lettersss", "1000"}) {
            fails(before + invalid, 1, at);
        }
    }

    private static void anyName() {
        Sentences.about(3, "TEXT", "name is any word");
        for (String name : new String[] {"letters", "machine", "listens", "go", "accept", "tire", "turn", "a", "z", "abcdefgh"}) {
            LetterAuction x = passes("letters 1;machine " + name + " 1 2 3 listens;go " + name + " 0 a 2;accept " + name
                + " 1;tire " + name + " 2 9;machine zz 1 1 1;");
            Check.same("goes", 2, x.goes(0, 0, 0));
            Check.yes("accepts", x.isAccepting(0, 1));
            Check.same("tires", 9, x.strength(0, 2));
            Check.same("listens", 1, x.machine(0, 4));
        }
        Sentences.about(3, "TEXT", "2: a name that an earlier machine has");
        fails(HEAD + "machine q", 2, HEAD.length() + 8);
        fails(HEAD + "machine p 1000", 2, HEAD.length() + 8);
        passes(HEAD + "machine qq 1 1 1;machine pq 1 1 1;");
        fails("letters 1;machine abcdefgh 1 1 1;machine abcdefgh", 2, 41);
        passes("letters 1;machine abcdefgh 1 1 1;machine abcdefgi 1 1 1;machine bbcdefgh 1 1 1;machine abcdefg 1 1 1;");
    }

    private static void earlierMachines() {
        Sentences.about(3, "TEXT", "machine is a word that is the name of an earlier machine");
        passes(HEAD + "go q 0 a 0;accept q 0;tire q 0 1;machine r 1 1 1;go r 0 a 0;accept r 0;tire r 0 1;");
        Sentences.about(3, "TEXT", "4: a machine that is no earlier one.");
        for (String keyword : new String[] {"go ", "accept ", "tire "}) {
            int at = keyword.length();
            fails("letters 1;" + keyword + "p", 4, 10 + at);
            fails(HEAD + keyword + "r", 4, HEAD.length() + at);
            fails(HEAD + keyword + "pp 0", 4, HEAD.length() + at);
            fails(HEAD + keyword + "go 0 a 0;", 4, HEAD.length() + at);
            fails(HEAD + keyword + "r 0 a 0;machine r 1 1 1;", 4, HEAD.length() + at);
            // A name of an auction that was described before is no longer one.
            LetterAuction x = passes("letters 1;machine r 1 1 1;");
            Check.same("machine of an earlier text", 4, Check.parse(x, HEAD + keyword + "r 0 a 0;"));
        }
    }

    private static void letters() {
        String[] words = {"a", "b", "c", "d", "e", "z"};
        for (int count = 1; count <= 4; count++) {
            String head = "letters " + count + ";machine p 1 1 1;go p 0 ";
            for (int letter = 0; letter < words.length; letter++) {
                if (letter < count) {
                    Sentences.about(3, "TEXT", "letter is a word of one letter, one of the first count letters of the alphabet");
                    Check.same("goes by " + words[letter], 0, passes(head + words[letter] + " 0;").goes(0, 0, letter));
                } else {
                    Sentences.about(3, "TEXT", "a word in the place of a letter that is not one of the letters.");
                    fails(head + words[letter] + " 0;", 3, head.length());
                }
            }
            for (String several : new String[] {"aa", "ab", "ba", "abcdefgh", "zzzzzzzz", "machine"}) {
                Sentences.about(3, "TEXT", "a word in the place of a letter that is not one of the letters.");
                fails(head + several + " 0;", 3, head.length());
            }
        }
        Sentences.about(3, "TEXT", "the letter of a go if the machine has one from this state by this letter");
        String go = HEAD + "go p 1 b 2;go p ";
        fails(go + "1 b 0;", 2, go.length() + 2);
        fails(go + "1 b 2;", 2, go.length() + 2);
        fails(go + "1 b 99;", 2, go.length() + 2);
        fails(go + "1 b", 2, go.length() + 2);
        passes(go + "1 a 2;");
        passes(go + "0 b 2;");
        passes(HEAD + "go p 1 b 1;go q 1 b 1;");
    }

    private static final String RANGES = "count is 1 to 4, coins 0 to 999, weight 1 to 9, states (how many states the "
        + "machine has) "
        + "1 to 6, state 0 to the number of states of the machine minus 1, times 1 to 99, rounds 1 to 20, price 0 to 99.";

    private static void numbersOfHead() {
        Sentences.about(3, "TEXT", RANGES);
        for (int count = 1; count <= 4; count++) {
            Check.same("count", count, passes("letters " + count + ";").size(1));
        }
        for (int count : new int[] {0, 5, 9, 10, 999}) {
            Sentences.about(3, "TEXT", "3: a number out of its range");
            fails("letters " + count + ";", 3, 8);
            fails("letters " + count, 3, 8);
        }
    }

    private static void numbersOfMachines() {
        Sentences.about(3, "TEXT", RANGES);
        for (int coins : new int[] {0, 1, 998, 999}) {
            Check.same("coins", coins, passes("letters 1;machine p " + coins + " 1 1;").machine(0, 1));
        }
        // No number of three digits is above this range.
        fails("letters 1;machine p 1000 1 1;", 1, 20);
        for (int weight = 1; weight <= 9; weight++) {
            Check.same("weight", weight, passes("letters 1;machine p 1 " + weight + " 1;").machine(0, 2));
        }
        for (int states = 1; states <= 6; states++) {
            Check.same("states", states, passes("letters 1;machine p 1 1 " + states + ";").machine(0, 3));
        }
        Sentences.about(3, "TEXT", "3: a number out of its range");
        for (int weight : new int[] {0, 10, 999}) {
            fails("letters 1;machine p 1 " + weight + " 1;", 3, 22);
        }
        for (int states : new int[] {0, 7, 999}) {
            fails("letters 1;machine p 1 1 " + states + ";", 3, 24);
        }
    }

    private static void numbersOfStates() {
        for (int states = 1; states <= 6; states++) {
            // Another machine has other states, so that its number would let too many or too few pass.
            String head = "letters 1;machine q 1 1 " + (7 - states) + ";machine p 1 1 " + states + ";";
            int at = head.length();
            Sentences.about(3, "TEXT", RANGES);
            for (int state = 0; state < states; state++) {
                LetterAuction x = passes(head + "go p " + state + " a " + state + ";accept p " + state + ";tire p " + state + " 7;");
                Check.same("goes", state, x.goes(1, state, 0));
                Check.yes("accepts", x.isAccepting(1, state));
                Check.same("tires", 7, x.strength(1, state));
            }
            Sentences.about(3, "TEXT", "3: a number out of its range");
            for (int state : new int[] {states, states + 1, 999}) {
                fails(head + "go p " + state + " a 0;", 3, at + 5);
                fails(head + "go p 0 a " + state + ";", 3, at + 9);
                fails(head + "accept p " + state + ";", 3, at + 9);
                fails(head + "tire p " + state + " 7;", 3, at + 7);
            }
        }
        Sentences.about(3, "TEXT", "the state of an accept that accepts already");
        fails(HEAD + "accept p 2;accept p 2;", 2, HEAD.length() + 20);
        fails(HEAD + "accept p 2;accept p 2", 2, HEAD.length() + 20);
        passes(HEAD + "accept p 2;accept p 1;accept p 0;accept q 1;accept q 0;");
    }

    private static void numbersOfTires() {
        Sentences.about(3, "TEXT", RANGES);
        for (int times : new int[] {1, 2, 98, 99}) {
            Check.same("times", times, passes(HEAD + "tire p 2 " + times + ";").strength(0, 2));
        }
        Sentences.about(3, "TEXT", "3: a number out of its range");
        for (int times : new int[] {0, 100, 999}) {
            fails(HEAD + "tire p 2 " + times + ";", 3, HEAD.length() + 9);
        }
        Sentences.about(3, "TEXT", "the state of a tire that has one");
        fails(HEAD + "tire p 2 5;tire p 2 5;", 2, HEAD.length() + 18);
        fails(HEAD + "tire p 2 5;tire p 2 0;", 2, HEAD.length() + 18);
        fails(HEAD + "tire p 2 5;tire p 2", 2, HEAD.length() + 18);
        passes(HEAD + "tire p 2 5;tire p 1 5;tire p 0 5;tire q 1 5;");
    }

    private static void numbersOfTurns() {
        Sentences.about(3, "TEXT", RANGES);
        for (int rounds : new int[] {1, 2, 19, 20}) {
            Check.same("rounds", rounds, passes("letters 1;turn " + rounds + " 5;").size(6));
        }
        for (int price : new int[] {0, 1, 98, 99}) {
            Check.same("price", price, passes("letters 1;turn 5 " + price + ";").size(7));
        }
        Sentences.about(3, "TEXT", "3: a number out of its range");
        for (int rounds : new int[] {0, 21, 999}) {
            fails("letters 1;turn " + rounds + " 5;", 3, 15);
        }
        for (int price : new int[] {100, 101, 999}) {
            fails("letters 1;turn 5 " + price + ";", 3, 17);
        }
    }

    private static void fourMachines() {
        StringBuilder text = new StringBuilder("letters 1;");
        for (int machines = 0; machines <= 4; machines++) {
            Sentences.about(3, "TEXT", "There are at most 4 machines.");
            Check.same("machines", machines, passes(text.toString()).size(0));
            if (machines < 4) {
                text.append("machine ").append(NAMES.charAt(machines)).append(" 1 1 1;");
            }
        }
        Sentences.about(3, "TEXT", "5: the word of a fifth machine.");
        fails(text + "machine t 1 1 1;", 5, text.length());
        fails(text + "machine p 1 1 1;", 5, text.length());
        fails(text + "machine", 5, text.length());
        fails(text + "machine !", 5, text.length());
        fails(text + "turn 1 1; machine", 5, text.length() + 10);
        fails(text + "machines", 1, text.length());
        passes(text + "accept s 0;");
    }

    private static void whatStatementsTell() {
        LetterAuction x = passes("letters 2;machine p 999 1 2;go p 0 b 1;go p 1 b 1;accept p 0;tire p 0 1;turn 20 0;");
        Sentences.about(3, "TEXT", "\"go\" tells that the machine goes from the first state to the second one by the letter");
        Check.same("from 0 by b", 1, x.goes(0, 0, 1));
        Check.same("from 1 by b", 1, x.goes(0, 1, 1));
        Check.same("from 0 by a", -1, x.goes(0, 0, 0));
        Check.same("from 1 by a", -1, x.goes(0, 1, 0));
        Sentences.about(3, "TEXT", "\"accept\" that a state accepts");
        Check.yes("state 0", x.isAccepting(0, 0));
        Check.no("state 1", x.isAccepting(0, 1));
        Sentences.about(3, "TEXT", "\"tire\" how often a state can be entered (without this any number of times).");
        Check.same("strength of a state that tires", 1, x.strength(0, 0));
        Check.same("strength of a state that never tires", -1, x.strength(0, 1));
        for (int n = 1; n <= 60; n++) {
            Check.same("bought", n, x.buy(0, 1));
        }
        Check.same("entered 60 times", -1, x.strength(0, 1));
        Check.same("went", 60, x.machine(0, 5));
        for (int times = 1; times <= 3; times++) {
            LetterAuction y = passes("letters 1;machine p 99 1 1;go p 0 a 0;tire p 0 " + times + ";");
            for (int n = 1; n <= times; n++) {
                Check.same("bought", n, y.buy(0, 0));
            }
            Check.raisesState("entered more often than " + times, () -> y.buy(0, 0));
        }
    }

    private static void oneTurn() {
        Sentences.about(3, "TEXT", "turn can occur once (rounds 4 and price 1 without it).");
        LetterAuction x = passes("letters 1;turn 20 99;");
        Check.same("rounds", 20, x.size(6));
        Check.same("price", 99, x.size(7));
        Check.same("a text without it", 0, Check.parse(x, "letters 1;"));
        Check.same("rounds without it", 4, x.size(6));
        Check.same("price without it", 1, x.size(7));
        Check.same("behind a machine", 3, passes(HEAD + "turn 3 2;").size(6));
        Sentences.about(3, "TEXT", "the word of a second turn.");
        fails("letters 1;turn 4 1;turn 4 1;", 2, 19);
        fails("letters 1;turn 4 1;turn", 2, 19);
        fails("letters 1;turn 4 1;turn !", 2, 19);
        fails(HEAD + "turn 4 1;accept p 0;turn 9 9;", 2, HEAD.length() + 20);
        fails("letters 1;turn 4 1;turns", 1, 19);
        Check.same("a first one after a failing parse", 0, Check.parse(failed("letters 1;turn 4 1;turn"), "letters 1;turn 1 1;"));
    }

    private static void newObject() {
        Sentences.about(1, "Creates an auction of one letter, without machines, with an empty input buffer.");
        LetterAuction x = new LetterAuction();
        int[] due = {0, 1, 0, 0, 0, -1, 4, 1, 0};
        for (int what = 0; what < due.length; what++) {
            Check.same("size(" + what + ")", due[what], x.size(what));
        }
        Check.same("sum(0)", 0, x.sum(0));
        Check.raisesIndex("sum(1)", () -> x.sum(1));
        Check.same("words(0, 20)", 1, x.words(0, 20));
        Check.raisesIndex("words(1, 0)", () -> x.words(1, 0));
        Check.raisesIndex("machine(0, 0)", () -> x.machine(0, 0));
        Check.no("isAgreed", x.isAgreed());
        Check.same("undo", -1, x.undo());
        Check.same("log(0, 0)", -1, x.log(0, 0));
        Check.same("letter(0)", -1, x.letter(0));
        Check.same("errorPosition", -1, x.errorPosition());
        for (int what = 0; what <= 5; what++) {
            Check.same("account(" + what + ")", 0, x.account(what));
        }
        Check.raisesState("restoreSnapshot(0)", () -> x.restoreSnapshot(0));
        Check.raisesState("restoreSnapshot(1)", () -> x.restoreSnapshot(1));
        Check.raisesArgument("parse(1)", () -> x.parse(1));
        Check.same("the first 20 bytes", 20, x.append(0, 0, 0, 0, 0));
        Check.same("parse(0)", 1, new LetterAuction().parse(0));
    }

    private static void append() {
        Sentences.about(2, "Appends 20 bytes to the input buffer: the four bytes of each argument, the most "
            + "significant byte first.");
        LetterAuction x = new LetterAuction();
        // "letters 3;turn 17 5;"
        x.append(0x6c657474, 0x65727320, 0x333b7475, 0x726e2031, 0x3720353b);
        Check.same("parse", 0, x.parse(20));
        Check.same("letters", 3, x.size(1));
        Check.same("rounds", 17, x.size(6));
        Check.same("price", 5, x.size(7));
        for (int at = 0; at < 20; at++) {
            int[] fours = {0x20202020, 0x20202020, 0x20202020, 0x20202020, 0x20202020};
            fours[at / 4] ^= 0x80 << (24 - at % 4 * 8);
            x.append(fours[0], fours[1], fours[2], fours[3], fours[4]);
            Check.same("parse with a byte 160 at " + at, 1, x.parse(20));
            Check.same("its position", at, x.errorPosition());
        }
        Sentences.about(2, "Returns the new length of the buffer");
        LetterAuction y = new LetterAuction();
        String text = "letters 1;" + " ".repeat(574) + "machine p 7 8 5;";
        for (int length = 20; length <= 600; length += 20) {
            Check.same("append", length, appended(y, text.substring(length - 20, length)));
        }
        Sentences.about(2, "NONE, with nothing appended, if it would exceed 600.");
        Check.same("the 31st time", -1, appended(y, "letters 2;letters 2;"));
        Check.same("the 32nd time", -1, appended(y, "!!!!!!!!!!!!!!!!!!!!"));
        Check.raisesArgument("parse(601)", () -> y.parse(601));
        Check.raisesArgument("parse(620)", () -> y.parse(620));
        Check.same("the first 600 bytes are as they were", 0, y.parse(600));
        Check.same("to the last one", 5, y.machine(0, 3));
        Check.same("the buffer is empty again", 20, appended(y, text.substring(0, 20)));
    }

    private static int appended(LetterAuction x, String twenty) {
        int[] fours = new int[5];
        for (int i = 0; i < 20; i++) {
            fours[i / 4] = fours[i / 4] << 8 | twenty.charAt(i);
        }
        return x.append(fours[0], fours[1], fours[2], fours[3], fours[4]);
    }

    private static void parseOfPart() {
        Sentences.about(3, "Parses the first length bytes of the input buffer as a text.");
        String text = "letters 3;machine p 123 4 5;";
        int[] lengths = {9, 10, 11, 26, 27, 28};
        int[] codes = {1, 0, 1, 1, 1, 0};
        int[] positions = {9, -1, 10, 26, 27, -1};
        for (int i = 0; i < codes.length; i++) {
            LetterAuction x = new LetterAuction();
            Check.feed(x, text);
            Check.same("parse(" + lengths[i] + ")", codes[i], x.parse(lengths[i]));
            Check.same("position", positions[i], x.errorPosition());
        }
        Sentences.about(3, "`length`: 0 to the length of the buffer");
        LetterAuction x = new LetterAuction();
        Check.same("parse(0) of an empty buffer", 1, x.parse(0));
        Check.same("position", 0, x.errorPosition());
        Check.feed(x, text);
        Check.same("parse(0) of a buffer of 40 bytes", 1, x.parse(0));
        Check.same("position", 0, x.errorPosition());
        Check.feed(x, text);
        Check.same("parse(40)", 0, x.parse(40));
        Sentences.about(3, "Throws `IllegalArgumentException` if length is out of range");
        Check.outsideArgument("parse of an empty buffer", 0, 0, x::parse);
        Check.feed(x, text);
        Check.outsideArgument("parse of a buffer of 40 bytes", 0, 40, x::parse);
        Check.same("the buffer is as it was", 0, x.parse(28));
        Check.same("coins", 123, x.machine(0, 1));
        Sentences.about(3, "Returns 0 on success; the code of the parse error.");
        String[] wrong = {HEAD, HEAD + "!", HEAD + "machine p", "letters 5", HEAD + "accept r", "letters 1;machine a 1 1 1;"
            + "machine b 1 1 1;machine c 1 1 1;machine d 1 1 1;machine e 1 1 1;"};
        for (int code = 0; code <= 5; code++) {
            Check.same("parse of " + wrong[code], code, Check.parse(new LetterAuction(), wrong[code]));
        }
    }

    private static void parseEmptiesBuffer() {
        Sentences.about(3, "On a parse error nothing changes except that the whole buffer is emptied; "
            + "it is also empty after a success.");
        for (String text : new String[] {"letters 1;", "letters 5;", "!", HEAD + "machine p", HEAD + "go r"}) {
            for (int rest : new int[] {0, 100}) {
                LetterAuction x = new LetterAuction();
                Check.feed(x, text + " ".repeat(rest));
                x.parse(text.length());
                Check.raisesArgument("parse(1)", () -> x.parse(1));
                Check.same("append", 20, x.append(0, 0, 0, 0, 0));
            }
        }
        String[] wrong = {"letters", HEAD + "machine p", HEAD + "turn 0", HEAD + "accept r 0;", HEAD + "machine r 1 1 1;"
            + "machine s 1 1 1;machine t 1 1 1;"};
        for (String text : wrong) {
            Check.same("a parse of " + text + " changes nothing", Whole.standing(Recipes::busy), Whole.standing(() -> {
                LetterAuction x = Recipes.busy();
                x.parse(0);
                Check.parse(x, text);
                return x;
            }));
        }
    }

    private static void parseReplaces() {
        Sentences.about(3, "On success the described auction replaces the current one.");
        String text = HEAD + "go p 0 b 2;accept p 2;accept q 0;tire q 1 4;turn 9 8;";
        Check.same("all is as if it was parsed first", Whole.of(() -> passes(text)), Whole.of(() -> {
            LetterAuction x = Recipes.busy();
            x.parse(0);
            Check.parse(x, text);
            return x;
        }));
        Check.same("nothing stays of the text before the last one", Whole.of(() -> passes(text)), Whole.of(() -> {
            LetterAuction x = passes("letters 4;turn 2 2;machine a 1 1 6 listens;machine b 1 1 6 listens;accept a 0;"
                + "accept a 1;accept b 1;tire a 0 9;tire b 0 9;go a 0 a 0;go a 0 d 0;go b 1 b 1;");
            Check.parse(x, "letters 1;");
            Check.parse(x, text);
            return x;
        }));
        Check.same("a text without machines", Whole.of(() -> passes("letters 4;")), Whole.of(() -> {
            LetterAuction x = Recipes.busy();
            x.parse(0);
            Check.parse(x, "letters 4;");
            return x;
        }));
    }

    private static void errorPosition() {
        Sentences.about(4, "NONE if that call succeeded or there was none.");
        LetterAuction x = new LetterAuction();
        Check.same("no call", -1, x.errorPosition());
        Check.raisesArgument("parse(1)", () -> x.parse(1));
        Check.same("no call but one that threw", -1, x.errorPosition());
        Check.same("a call that fails", 3, Check.parse(x, "letters 9;"));
        Sentences.about(4, "Returns the position of the parse error of the last call of parse that did not throw an exception.");
        Check.same("its position", 8, x.errorPosition());
        Check.raisesArgument("parse(1)", () -> x.parse(1));
        Check.same("the position after one that threw", 8, x.errorPosition());
        Check.same("another that fails", 1, Check.parse(x, "!"));
        Check.same("the position 0", 0, x.errorPosition());
        Check.same("one that succeeds", 0, Check.parse(x, "letters 1;"));
        Sentences.about(4, "NONE if that call succeeded or there was none.");
        Check.same("no position", -1, x.errorPosition());
        Check.raisesArgument("parse(-1)", () -> x.parse(-1));
        Check.same("still none after one that threw", -1, x.errorPosition());
    }

    /** Any two wrong statements, the one before the other: the first one is told. */
    private static void smallestPosition() {
        Sentences.about(4, "TEXT", "The error with the smallest position is reported.");
        String[] statements = {"machine p 1 1 1;", "machine r 1000 1 1;", "machine r 1 0 1;", "go z 0 a 0;", "accept p 9;", "!", "x;",
            "go p 0 c 0;", "tire p 0 0;", "turn 0 0;", ";"};
        int[] codes = {2, 1, 3, 4, 3, 1, 1, 3, 3, 3, 1};
        int[] offsets = {8, 10, 12, 3, 9, 0, 0, 7, 9, 5, 0};
        for (int first = 0; first < statements.length; first++) {
            for (String second : statements) {
                fails(HEAD + statements[first] + second, codes[first], HEAD.length() + offsets[first]);
            }
        }
    }

    private static void smallestCode() {
        Sentences.about(4, "TEXT", "If several codes apply at one position, the smallest is reported.");
        // Not a token, and too great a number.
        fails("letters 0005;", 1, 8);
        fails(HEAD + "turn 1000", 1, HEAD.length() + 5);
        // Not a token, and what is told already.
        fails(HEAD + "accept p 0;accept p 0000;", 1, HEAD.length() + 20);
        fails(HEAD + "tire p 0 1;tire p 0000 1;", 1, HEAD.length() + 18);
        fails(HEAD + "go p 0 a 0;go p 0 aaaaaaaaa 0;", 1, HEAD.length() + 18);
        fails("letters 1;machine abcdefgh 1 1 1;machine abcdefghi 1 1 1;", 1, 41);
        // Not a token, and no letter; not a token, and no machine.
        fails(HEAD + "go p 0 ccccccccc 0;", 1, HEAD.length() + 7);
        fails(HEAD + "accept rrrrrrrrr 0;", 1, HEAD.length() + 7);
        // Not allowed at this place, and no letter or machine.
        fails(HEAD + "go p 0 9 0;", 1, HEAD.length() + 7);
        fails(HEAD + "accept 9 0;", 1, HEAD.length() + 7);
    }

    private static void positionOfToken() {
        Sentences.about(4, "TEXT", "The position of an error is the index of the first byte of its token; "
            + "if the text ends too early, it is the length of the text.");
        fails("   letters\n\n 5 ;", 3, 13);
        fails("letters 777;", 3, 8);
        fails("letters 1;machine  pppppppppp 1 1 1;", 1, 19);
        fails("lettres 1;", 1, 0);
        fails("  lettres 1;", 1, 2);
        fails("letters 1;machine p", 1, 19);
        fails("letters 1;machine p ", 1, 20);
        fails("letters 1;machine p\n\n\n", 1, 22);
        fails("", 1, 0);
        fails(" ", 1, 1);
        // The length is that of the text, not that of the buffer.
        fails("letters 1;machine p 1 1 1;", 19, 1, 19);
        fails("letters 1;machine p 1 1 1;", 15, 1, 10);
        Sentences.about(4, "Returns the position");
        fails(" ".repeat(599) + "x", 1, 599);
        fails(" ".repeat(600), 1, 600);
    }

    private static LetterAuction failed(String text) {
        LetterAuction x = new LetterAuction();
        Check.yes("parse of " + text + " fails", Check.parse(x, text) > 0);
        return x;
    }

    private static void fails(String text, int code, int position) {
        fails(text, text.length(), code, position);
    }

    private static void fails(String text, int length, int code, int position) {
        LetterAuction x = new LetterAuction();
        Check.feed(x, text);
        Check.same("parse of the first " + length + " bytes of " + text, code, x.parse(length));
        Check.same("position in " + text, position, x.errorPosition());
    }

    private static LetterAuction passes(String text) {
        LetterAuction x = Check.of(text);
        Check.same("position after parse of " + text, -1, x.errorPosition());
        return x;
    }
}
