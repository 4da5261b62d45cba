import java.util.Arrays;

/**
 * Letters of one common word, for which machines bid. The face checks the arguments; the classes inside do the
 * work on rows that the constructor makes once, so that no later call makes an object.
 */
public final class LetterAuction {
    /** Returned if there is no result. */
    public static final int NONE = -1;

    private static final int MAX_TEXT = 600;
    private static final int BYTES_APPENDED = 20;
    private static final int MAX_LETTERS = 4;
    private static final int MAX_MACHINES = 4;
    private static final int MAX_STATES = 6;
    private static final int MAX_WORD = 60;
    private static final int MAX_COINS = 999;
    private static final int MAX_WEIGHT = 9;
    private static final int MAX_TIMES = 99;
    private static final int MAX_TURN_ROUNDS = 20;
    private static final int MAX_TURN_PRICE = 99;
    private static final int MAX_ROUNDS = 20;
    private static final int MAX_COUNTED_LENGTH = 20;
    private static final int MAX_LOG = 20;
    private static final int LOG_PARTS = 4;
    private static final int MAX_CHANGES = 10;
    private static final int SLOTS = 2;

    private static final int ACCOUNT_PRICES = 0;
    private static final int ACCOUNT_BOUGHT = 1;
    private static final int ACCOUNT_BALKED = 2;
    private static final int ACCOUNT_RESETS = 3;
    private static final int ACCOUNT_SHARED = 4;
    private static final int ACCOUNT_SILENT = 5;
    private static final int ACCOUNTS = 6;

    private final Reader reader = new Reader();
    private final Bids bids = new Bids();
    private final Search search = new Search();
    private final Past past = new Past();
    private final Standing now = new Standing();
    private final Standing trial = new Standing();
    private Plan plan = new Plan();
    private Plan draft = new Plan();

    public LetterAuction() {
        now.begin(plan);
    }

    // ---- text

    public int append(int a, int b, int c, int d, int e) {
        if (reader.filled + BYTES_APPENDED > MAX_TEXT) {
            return NONE;
        }
        reader.put(a);
        reader.put(b);
        reader.put(c);
        reader.put(d);
        reader.put(e);
        return reader.filled;
    }

    public int parse(int length) throws IllegalArgumentException {
        checkArgument(length, 0, reader.filled);
        boolean described = reader.readInto(draft, length);
        reader.filled = 0;
        if (described) {
            // The old plan serves as the next draft: a failed parse must leave the current one alone.
            Plan replaced = plan;
            plan = draft;
            draft = replaced;
            now.begin(plan);
            past.empty();
        }
        return reader.errorCode;
    }

    public int errorPosition() {
        return reader.errorStart;
    }

    public int size(int what) throws IllegalArgumentException {
        switch (what) {
            case 0: return plan.machines;
            case 1: return plan.letters;
            case 2: return now.told;
            case 3: return now.rounds;
            case 4: return now.chest;
            case 5: return plan.machines == 0 ? NONE : now.turn;
            case 6: return plan.turnRounds;
            case 7: return plan.turnPrice;
            case 8: return past.changes;
            default: throw new IllegalArgumentException();
        }
    }

    // ---- machines

    public int machine(int machine, int what) throws IndexOutOfBoundsException, IllegalArgumentException {
        checkMachine(machine);
        switch (what) {
            case 0: return now.state[machine];
            case 1: return now.coins[machine];
            case 2: return now.weight[machine];
            case 3: return plan.states[machine];
            case 4: return plan.isListening(machine) ? 1 : 0;
            case 5: return now.went[machine];
            case 6: return now.balked[machine];
            default: throw new IllegalArgumentException();
        }
    }

    public int strength(int machine, int state) throws IndexOutOfBoundsException {
        checkState(machine, state);
        return now.strengths[machine * MAX_STATES + state];
    }

    public boolean isAccepting(int machine, int state) throws IndexOutOfBoundsException {
        checkState(machine, state);
        return plan.isGoal(machine, state);
    }

    public int goes(int machine, int state, int letter) throws IndexOutOfBoundsException {
        checkState(machine, state);
        checkLetter(letter);
        return plan.target(machine, state, letter);
    }

    public int distance(int machine, int state) throws IndexOutOfBoundsException {
        checkState(machine, state);
        bids.measure(plan, now, machine);
        return bids.away[state];
    }

    public int whyNotBid(int machine, int letter) throws IndexOutOfBoundsException {
        checkMachine(machine);
        checkLetter(letter);
        return bids.obstacle(plan, now, machine, letter);
    }

    // ---- the next round; nothing changes

    public int bidLetter(int machine) throws IndexOutOfBoundsException {
        checkMachine(machine);
        bids.collect(plan, now);
        return bids.wanted[machine];
    }

    public int bid(int machine) throws IndexOutOfBoundsException {
        checkMachine(machine);
        bids.collect(plan, now);
        return bids.offered[machine];
    }

    public int sum(int letter) throws IndexOutOfBoundsException {
        checkLetter(letter);
        bids.collect(plan, now);
        return bids.sums[letter];
    }

    public int winner() {
        bids.collect(plan, now);
        return bids.best;
    }

    public int price() {
        bids.collect(plan, now);
        return bids.cost;
    }

    public int pays(int machine) throws IndexOutOfBoundsException {
        checkMachine(machine);
        bids.collect(plan, now);
        return bids.paid[machine];
    }

    public int coinsAfter(int machine, int rounds) throws IndexOutOfBoundsException, IllegalArgumentException {
        checkMachine(machine);
        checkArgument(rounds, 1, MAX_ROUNDS);
        trial.copyFrom(now);
        bids.playRounds(plan, trial, rounds);
        return trial.coins[machine];
    }

    // ---- words

    public int letter(int k) {
        return k >= 0 && k < now.told ? now.word[k] : NONE;
    }

    public boolean accepts(int machine) throws IndexOutOfBoundsException {
        checkMachine(machine);
        return now.isWordAccepted(plan, machine);
    }

    public boolean isAgreed() {
        return now.isEveryGoalReached(plan);
    }

    public long words(int machines, int length) throws IndexOutOfBoundsException, IllegalArgumentException {
        checkSet(machines);
        checkArgument(length, 0, MAX_COUNTED_LENGTH);
        return search.count(plan, machines, length);
    }

    public int shortest(int machines) throws IndexOutOfBoundsException {
        checkSet(machines);
        return search.lengthTogether(plan, machines);
    }

    public int shortestLetter(int machines, int k) throws IndexOutOfBoundsException {
        checkSet(machines);
        return search.letterTogether(plan, machines, k);
    }

    public int differs(int machine, int other) throws IndexOutOfBoundsException {
        checkMachine(machine);
        checkMachine(other);
        return machine == other ? NONE : search.lengthApart(plan, 1 << machine | 1 << other);
    }

    // ---- log and accounts

    public int log(int k, int part) throws IllegalArgumentException {
        checkArgument(part, 0, LOG_PARTS - 1);
        return now.entryPart(k, part);
    }

    public int account(int what) throws IllegalArgumentException {
        checkArgument(what, 0, ACCOUNTS - 1);
        return now.accounts[what];
    }

    // ---- changes

    public int play(int rounds) throws IllegalArgumentException, IllegalStateException {
        checkArgument(rounds, 1, MAX_ROUNDS);
        checkPossible(!now.isFull());
        past.keep(now);
        return bids.playRounds(plan, now, rounds);
    }

    public int buy(int machine, int letter) throws IndexOutOfBoundsException, IllegalStateException {
        checkMachine(machine);
        checkLetter(letter);
        checkPossible(!now.isFull() && now.canGo(plan, machine, letter) && now.coins[machine] >= now.weight[machine]);
        past.keep(now);
        int cost = now.weight[machine];
        now.note(letter, cost, 1 << machine);
        now.pay(machine, cost, ACCOUNT_BOUGHT);
        now.tell(plan, letter, 1 << machine);
        return now.told;
    }

    public int reset(int machine) throws IndexOutOfBoundsException, IllegalStateException {
        checkMachine(machine);
        int cost = 2 * plan.turnPrice;
        checkPossible(now.coins[machine] >= cost);
        past.keep(now);
        now.payForReset(plan, machine, cost);
        return now.coins[machine];
    }

    public int give(int machine, int other, int coins)
            throws IndexOutOfBoundsException, IllegalArgumentException, IllegalStateException {
        checkMachine(machine);
        checkMachine(other);
        checkArgument(coins, 0, MAX_COINS);
        checkPossible(now.coins[machine] >= coins);
        past.keep(now);
        now.coins[machine] -= coins;
        now.coins[other] += coins;
        return now.coins[other];
    }

    public int setWeight(int machine, int weight) throws IndexOutOfBoundsException, IllegalArgumentException {
        checkMachine(machine);
        checkArgument(weight, 1, MAX_WEIGHT);
        past.keep(now);
        int previous = now.weight[machine];
        now.weight[machine] = weight;
        return previous;
    }

    // ---- undo and snapshots

    public int undo() {
        return past.takeBack(now);
    }

    public boolean saveSnapshot(int slot) throws IndexOutOfBoundsException {
        checkSlot(slot);
        return past.save(slot, now);
    }

    public int restoreSnapshot(int slot) throws IndexOutOfBoundsException, IllegalStateException {
        checkSlot(slot);
        checkPossible(past.isSaved(slot));
        past.load(slot, now);
        return now.told;
    }

    // ---- checks of arguments

    private void checkMachine(int machine) {
        if (machine < 0 || machine >= plan.machines) {
            throw new IndexOutOfBoundsException();
        }
    }

    private void checkState(int machine, int state) {
        checkMachine(machine);
        if (state < 0 || state >= plan.states[machine]) {
            throw new IndexOutOfBoundsException();
        }
    }

    private void checkLetter(int letter) {
        if (letter < 0 || letter >= plan.letters) {
            throw new IndexOutOfBoundsException();
        }
    }

    private void checkSet(int machines) {
        if (machines < 0 || machines >= 1 << plan.machines) {
            throw new IndexOutOfBoundsException();
        }
    }

    private static void checkSlot(int slot) {
        if (slot < 0 || slot >= SLOTS) {
            throw new IndexOutOfBoundsException();
        }
    }

    private static void checkArgument(int value, int least, int most) {
        if (value < least || value > most) {
            throw new IllegalArgumentException();
        }
    }

    private static void checkPossible(boolean possible) {
        if (!possible) {
            throw new IllegalStateException();
        }
    }

    /** What a text describes; it stays as it is until the next parse. */
    private static final class Plan {
        int letters;
        int machines;
        int listeners;
        int turnRounds;
        int turnPrice;
        final int[] coins = new int[MAX_MACHINES];
        final int[] weights = new int[MAX_MACHINES];
        final int[] states = new int[MAX_MACHINES];
        final int[] goals = new int[MAX_MACHINES];
        final int[] times = new int[MAX_MACHINES * MAX_STATES];
        final int[] targets = new int[MAX_MACHINES * MAX_STATES * MAX_LETTERS];

        Plan() {
            clear();
        }

        void clear() {
            letters = 1;
            machines = 0;
            listeners = 0;
            turnRounds = 4;
            turnPrice = 1;
            Arrays.fill(goals, 0);
            Arrays.fill(times, NONE);
            Arrays.fill(targets, NONE);
        }

        int target(int machine, int state, int letter) {
            return targets[(machine * MAX_STATES + state) * MAX_LETTERS + letter];
        }

        void setTarget(int machine, int state, int letter, int target) {
            targets[(machine * MAX_STATES + state) * MAX_LETTERS + letter] = target;
        }

        boolean isGoal(int machine, int state) {
            return (goals[machine] >> state & 1) == 1;
        }

        boolean isListening(int machine) {
            return (listeners >> machine & 1) == 1;
        }
    }

    /** The tokens of a text, found all at once before the grammar looks at them. */
    private static final class Tokens {
        static final int END = 0;
        static final int WORD = 1;
        static final int NUMBER = 2;
        static final int SEMICOLON = 3;
        private static final int INVALID = 4;
        private static final int GAP = 5;

        private static final int MAX_WORD_RUN = 8;
        private static final int MAX_NUMBER_RUN = 3;

        // One row more than a text has bytes, for the end.
        private final byte[] kinds = new byte[MAX_TEXT + 1];
        private final int[] starts = new int[MAX_TEXT + 1];
        private final long[] values = new long[MAX_TEXT + 1];
        private int count;

        void find(byte[] bytes, int length) {
            count = 0;
            int before = GAP;
            for (int i = 0; i < length && i < bytes.length; i++) {
                int kind = kindOf(bytes[i]);
                if (kind == before && (kind == WORD || kind == NUMBER)) {
                    lengthen(kind, i, bytes[i]);
                } else if (kind != GAP) {
                    add(kind, i, digitOf(kind, bytes[i]));
                }
                before = kind;
            }
            add(END, length, 0);
        }

        int kind(int token) {
            return token < count ? kinds[token] : END;
        }

        int start(int token) {
            return token < count ? starts[token] : 0;
        }

        /** The number, or the word packed to a number: different words give different ones. */
        long value(int token) {
            return token < count ? values[token] : 0;
        }

        static long packed(String word) {
            long packed = 0;
            for (int i = 0; i < word.length(); i++) {
                packed = packed * baseOf(WORD) + digitOf(WORD, word.charAt(i));
            }
            return packed;
        }

        private void add(int kind, int start, int value) {
            if (count < kinds.length) {
                kinds[count] = (byte) kind;
                starts[count] = start;
                values[count] = value;
                count++;
            }
        }

        private void lengthen(int kind, int i, int sign) {
            int last = count - 1;
            if (last < 0) {
                return;
            }
            values[last] = values[last] * baseOf(kind) + digitOf(kind, sign);
            int longest = kind == WORD ? MAX_WORD_RUN : MAX_NUMBER_RUN;
            if (i - starts[last] >= longest) {
                kinds[last] = INVALID;
            }
        }

        private static int kindOf(int sign) {
            if (sign >= 'a' && sign <= 'z') {
                return WORD;
            }
            if (sign >= '0' && sign <= '9') {
                return NUMBER;
            }
            if (sign == ' ' || sign == '\n') {
                return GAP;
            }
            return sign == ';' ? SEMICOLON : INVALID;
        }

        private static int baseOf(int kind) {
            return kind == WORD ? 32 : 10;
        }

        /** Letters count from 1, so that a word never equals one with more letters a before it. */
        private static int digitOf(int kind, int sign) {
            if (kind == WORD) {
                return sign - 'a' + 1;
            }
            return kind == NUMBER ? sign - '0' : 0;
        }
    }

    /** Holds the input buffer and reads a plan from it, statement by statement. */
    private static final class Reader {
        private static final int BAD_TOKEN = 1;
        private static final int REPEATED = 2;
        private static final int OUT_OF_RANGE = 3;
        private static final int UNKNOWN_MACHINE = 4;
        private static final int TOO_MANY_MACHINES = 5;

        int filled;
        int errorCode;
        int errorStart = NONE;
        private final byte[] bytes = new byte[MAX_TEXT];
        private final Tokens tokens = new Tokens();
        private final long[] names = new long[MAX_MACHINES];
        private boolean isTurnRead;
        private int next;
        private int taken;

        void put(int four) {
            for (int shift = 24; shift >= 0 && filled < MAX_TEXT; shift -= 8) {
                bytes[filled] = (byte) (four >> shift);
                filled++;
            }
        }

        /** Returns whether the first bytes of the buffer describe an auction; if not, the plan is of no use. */
        boolean readInto(Plan plan, int length) {
            errorCode = 0;
            errorStart = NONE;
            isTurnRead = false;
            next = 0;
            plan.clear();
            tokens.find(bytes, length);
            if (!isKeyword(next, "letters")) {
                return fail(BAD_TOKEN, next);
            }
            next++;
            if (!takeNumber(1, MAX_LETTERS)) {
                return false;
            }
            plan.letters = taken;
            boolean described = takeSemicolon();
            for (int i = 0; i < MAX_TEXT && described && tokens.kind(next) != Tokens.END; i++) {
                described = readStatement(plan) && takeSemicolon();
            }
            return described;
        }

        private boolean readStatement(Plan plan) {
            int keyword = next;
            if (isKeyword(keyword, "machine")) {
                return readMachine(plan);
            }
            if (isKeyword(keyword, "turn")) {
                return readTurn(plan);
            }
            boolean isGo = isKeyword(keyword, "go");
            boolean isAccept = isKeyword(keyword, "accept");
            if (!isGo && !isAccept && !isKeyword(keyword, "tire")) {
                return fail(BAD_TOKEN, keyword);
            }
            next++;
            // All three tell something of a state of a machine.
            if (!takeMachine(plan)) {
                return false;
            }
            int machine = taken;
            if (!takeNumber(0, plan.states[machine] - 1)) {
                return false;
            }
            int state = taken;
            if (isGo) {
                return readGo(plan, machine, state);
            }
            return isAccept ? readAccept(plan, machine, state) : readTire(plan, machine, state);
        }

        private boolean readMachine(Plan plan) {
            int machine = plan.machines;
            if (machine >= MAX_MACHINES) {
                return fail(TOO_MANY_MACHINES, next);
            }
            next++;
            if (!takeNewName(machine)) {
                return false;
            }
            if (!takeNumber(0, MAX_COINS)) {
                return false;
            }
            plan.coins[machine] = taken;
            if (!takeNumber(1, MAX_WEIGHT)) {
                return false;
            }
            plan.weights[machine] = taken;
            if (!takeNumber(1, MAX_STATES)) {
                return false;
            }
            plan.states[machine] = taken;
            if (isKeyword(next, "listens")) {
                plan.listeners |= 1 << machine;
                next++;
            }
            plan.machines++;
            return true;
        }

        private boolean readGo(Plan plan, int machine, int state) {
            if (!takeLetter(plan)) {
                return false;
            }
            int letter = taken;
            if (plan.target(machine, state, letter) != NONE) {
                return fail(REPEATED, next - 1);
            }
            if (!takeNumber(0, plan.states[machine] - 1)) {
                return false;
            }
            plan.setTarget(machine, state, letter, taken);
            return true;
        }

        private boolean readAccept(Plan plan, int machine, int state) {
            if (plan.isGoal(machine, state)) {
                return fail(REPEATED, next - 1);
            }
            plan.goals[machine] |= 1 << state;
            return true;
        }

        private boolean readTire(Plan plan, int machine, int state) {
            int cell = machine * MAX_STATES + state;
            if (plan.times[cell] != NONE) {
                return fail(REPEATED, next - 1);
            }
            if (!takeNumber(1, MAX_TIMES)) {
                return false;
            }
            plan.times[cell] = taken;
            return true;
        }

        private boolean readTurn(Plan plan) {
            if (isTurnRead) {
                return fail(REPEATED, next);
            }
            isTurnRead = true;
            next++;
            if (!takeNumber(1, MAX_TURN_ROUNDS)) {
                return false;
            }
            plan.turnRounds = taken;
            if (!takeNumber(0, MAX_TURN_PRICE)) {
                return false;
            }
            plan.turnPrice = taken;
            return true;
        }

        private boolean takeSemicolon() {
            if (tokens.kind(next) != Tokens.SEMICOLON) {
                return fail(BAD_TOKEN, next);
            }
            next++;
            return true;
        }

        private boolean takeNumber(int least, int most) {
            if (tokens.kind(next) != Tokens.NUMBER) {
                return fail(BAD_TOKEN, next);
            }
            long number = tokens.value(next);
            if (number < least || number > most) {
                return fail(OUT_OF_RANGE, next);
            }
            taken = (int) number;
            next++;
            return true;
        }

        private boolean takeNewName(int machine) {
            if (tokens.kind(next) != Tokens.WORD) {
                return fail(BAD_TOKEN, next);
            }
            long name = tokens.value(next);
            if (indexOfName(name, machine) != NONE) {
                return fail(REPEATED, next);
            }
            names[machine] = name;
            next++;
            return true;
        }

        private boolean takeMachine(Plan plan) {
            if (tokens.kind(next) != Tokens.WORD) {
                return fail(BAD_TOKEN, next);
            }
            int machine = indexOfName(tokens.value(next), plan.machines);
            if (machine == NONE) {
                return fail(UNKNOWN_MACHINE, next);
            }
            taken = machine;
            next++;
            return true;
        }

        private boolean takeLetter(Plan plan) {
            if (tokens.kind(next) != Tokens.WORD) {
                return fail(BAD_TOKEN, next);
            }
            // A word of several letters is packed to a number above those of all single letters.
            long letter = tokens.value(next) - 1;
            if (letter >= plan.letters) {
                return fail(OUT_OF_RANGE, next);
            }
            taken = (int) letter;
            next++;
            return true;
        }

        private boolean fail(int code, int token) {
            errorCode = code;
            errorStart = tokens.start(token);
            return false;
        }

        private int indexOfName(long name, int machines) {
            for (int machine = 0; machine < machines; machine++) {
                if (names[machine] == name) {
                    return machine;
                }
            }
            return NONE;
        }

        private boolean isKeyword(int token, String keyword) {
            return tokens.kind(token) == Tokens.WORD && tokens.value(token) == Tokens.packed(keyword);
        }
    }

    /** Everything that changes can change: undo and snapshots keep whole copies of it. */
    private static final class Standing {
        final int[] state = new int[MAX_MACHINES];
        final int[] coins = new int[MAX_MACHINES];
        final int[] weight = new int[MAX_MACHINES];
        final int[] went = new int[MAX_MACHINES];
        final int[] balked = new int[MAX_MACHINES];
        final int[] strengths = new int[MAX_MACHINES * MAX_STATES];
        final int[] word = new int[MAX_WORD];
        final int[] accounts = new int[ACCOUNTS];
        int told;
        int rounds;
        int chest;
        int turn;
        private final int[] entries = new int[MAX_LOG * LOG_PARTS];
        private int entryCount;
        private int nextEntry;

        void begin(Plan plan) {
            told = 0;
            rounds = 0;
            chest = 0;
            turn = 0;
            entryCount = 0;
            nextEntry = 0;
            Arrays.fill(accounts, 0);
            for (int machine = 0; machine < plan.machines; machine++) {
                coins[machine] = plan.coins[machine];
                weight[machine] = plan.weights[machine];
                went[machine] = 0;
                balked[machine] = 0;
                restart(plan, machine);
            }
        }

        void copyFrom(Standing other) {
            System.arraycopy(other.state, 0, state, 0, MAX_MACHINES);
            System.arraycopy(other.coins, 0, coins, 0, MAX_MACHINES);
            System.arraycopy(other.weight, 0, weight, 0, MAX_MACHINES);
            System.arraycopy(other.went, 0, went, 0, MAX_MACHINES);
            System.arraycopy(other.balked, 0, balked, 0, MAX_MACHINES);
            System.arraycopy(other.strengths, 0, strengths, 0, MAX_MACHINES * MAX_STATES);
            System.arraycopy(other.word, 0, word, 0, MAX_WORD);
            System.arraycopy(other.accounts, 0, accounts, 0, ACCOUNTS);
            System.arraycopy(other.entries, 0, entries, 0, MAX_LOG * LOG_PARTS);
            told = other.told;
            rounds = other.rounds;
            chest = other.chest;
            turn = other.turn;
            entryCount = other.entryCount;
            nextEntry = other.nextEntry;
        }

        boolean isFull() {
            return told >= MAX_WORD;
        }

        boolean isTired(int machine, int state) {
            return strengths[machine * MAX_STATES + state] == 0;
        }

        boolean canGo(Plan plan, int machine, int letter) {
            int target = plan.target(machine, state[machine], letter);
            return target != NONE && !isTired(machine, target);
        }

        boolean isWordAccepted(Plan plan, int machine) {
            int reached = 0;
            for (int i = 0; i < told && reached != NONE; i++) {
                reached = plan.target(machine, reached, word[i]);
            }
            return reached != NONE && plan.isGoal(machine, reached);
        }

        boolean isEveryGoalReached(Plan plan) {
            for (int machine = 0; machine < plan.machines; machine++) {
                if (!plan.isGoal(machine, state[machine])) {
                    return false;
                }
            }
            return plan.machines > 0;
        }

        /** Puts the letter to the end of the word; the takers go by it, and the others that listen read it. */
        void tell(Plan plan, int letter, int takers) {
            if (isFull()) {
                return;
            }
            word[told] = letter;
            told++;
            for (int machine = 0; machine < plan.machines; machine++) {
                if ((takers >> machine & 1) == 1 || plan.isListening(machine)) {
                    read(plan, machine, letter);
                }
            }
        }

        /** Takers bid or bought because they can go, so that only others balk here. */
        private void read(Plan plan, int machine, int letter) {
            if (canGo(plan, machine, letter)) {
                enter(machine, plan.target(machine, state[machine], letter));
                return;
            }
            balked[machine]++;
            if (coins[machine] > 0) {
                pay(machine, 1, ACCOUNT_BALKED);
            }
        }

        private void enter(int machine, int target) {
            int cell = machine * MAX_STATES + target;
            if (strengths[cell] > 0) {
                strengths[cell]--;
            }
            state[machine] = target;
            went[machine]++;
        }

        void pay(int machine, int amount, int account) {
            coins[machine] -= amount;
            chest += amount;
            accounts[account] += amount;
        }

        void payForReset(Plan plan, int machine, int amount) {
            pay(machine, amount, ACCOUNT_RESETS);
            restart(plan, machine);
        }

        private void restart(Plan plan, int machine) {
            int first = machine * MAX_STATES;
            System.arraycopy(plan.times, first, strengths, first, MAX_STATES);
            state[machine] = 0;
        }

        void endRound(Plan plan) {
            rounds++;
            if (plan.machines > 0 && plan.turnRounds > 0 && rounds % plan.turnRounds == 0) {
                takeTurn(plan);
                shareChest(plan);
            }
        }

        private void takeTurn(Plan plan) {
            if (coins[turn] >= plan.turnPrice) {
                payForReset(plan, turn, plan.turnPrice);
            }
            turn = turn + 1 < plan.machines ? turn + 1 : 0;
        }

        private void shareChest(Plan plan) {
            if (plan.machines == 0) {
                return;
            }
            int share = chest / plan.machines;
            for (int machine = 0; machine < plan.machines; machine++) {
                coins[machine] += share;
                chest -= share;
                accounts[ACCOUNT_SHARED] += share;
            }
        }

        /** Logs a letter; this must come before its round is counted, for the number of the round. */
        void note(int letter, int cost, int machines) {
            int cell = nextEntry * LOG_PARTS;
            entries[cell] = letter;
            entries[cell + 1] = cost;
            entries[cell + 2] = machines;
            entries[cell + 3] = rounds;
            nextEntry = nextEntry + 1 < MAX_LOG ? nextEntry + 1 : 0;
            entryCount = Math.min(entryCount + 1, MAX_LOG);
        }

        int entryPart(int k, int part) {
            if (k < 0 || k >= entryCount) {
                return NONE;
            }
            int entry = nextEntry - 1 - k;
            if (entry < 0) {
                entry += MAX_LOG;
            }
            return entries[entry * LOG_PARTS + part];
        }
    }

    /** Looks at what machines would bid in a standing, and plays rounds with it. */
    private static final class Bids {
        private static final int WORTH_OF_GOAL = 7;

        final int[] wanted = new int[MAX_MACHINES];
        final int[] offered = new int[MAX_MACHINES];
        final int[] paid = new int[MAX_MACHINES];
        final int[] sums = new int[MAX_LETTERS];
        final int[] away = new int[MAX_STATES];
        int best;
        int cost;
        private int bidders;

        /** Finds the distances of all states of a machine. */
        void measure(Plan plan, Standing now, int machine) {
            int states = plan.states[machine];
            for (int state = 0; state < states; state++) {
                away[state] = plan.isGoal(machine, state) ? 0 : NONE;
            }
            for (int steps = 1; steps < states; steps++) {
                for (int state = 0; state < states; state++) {
                    if (away[state] == NONE && isNextTo(plan, now, machine, state, steps - 1)) {
                        away[state] = steps;
                    }
                }
            }
        }

        private boolean isNextTo(Plan plan, Standing now, int machine, int state, int steps) {
            for (int letter = 0; letter < plan.letters; letter++) {
                int target = plan.target(machine, state, letter);
                if (target != NONE && away[target] == steps && !now.isTired(machine, target)) {
                    return true;
                }
            }
            return false;
        }

        int obstacle(Plan plan, Standing now, int machine, int letter) {
            int target = plan.target(machine, now.state[machine], letter);
            if (target == NONE) {
                return 1;
            }
            if (now.isTired(machine, target)) {
                return 2;
            }
            measure(plan, now, machine);
            if (away[target] == NONE) {
                return 3;
            }
            if (now.coins[machine] == 0) {
                return 4;
            }
            choose(plan, now, machine);
            return wanted[machine] == letter ? 0 : 5;
        }

        void collect(Plan plan, Standing now) {
            Arrays.fill(sums, 0);
            for (int machine = 0; machine < plan.machines; machine++) {
                measure(plan, now, machine);
                choose(plan, now, machine);
                if (wanted[machine] != NONE) {
                    sums[wanted[machine]] += offered[machine];
                }
            }
            findBest(plan);
            divideCost(plan);
        }

        /** The distances of this very machine must have been measured. */
        private void choose(Plan plan, Standing now, int machine) {
            int worth = 0;
            wanted[machine] = NONE;
            for (int letter = 0; letter < plan.letters && now.coins[machine] > 0; letter++) {
                if (now.canGo(plan, machine, letter)) {
                    int distance = away[plan.target(machine, now.state[machine], letter)];
                    int found = distance == NONE ? 0 : now.weight[machine] * (WORTH_OF_GOAL - distance);
                    if (found > worth) {
                        worth = found;
                        wanted[machine] = letter;
                    }
                }
            }
            offered[machine] = Math.min(worth, now.coins[machine]);
        }

        private void findBest(Plan plan) {
            best = NONE;
            cost = 0;
            int greatest = 0;
            for (int letter = 0; letter < plan.letters; letter++) {
                if (sums[letter] > greatest) {
                    // What was greatest so far is the greatest of the others now.
                    cost = greatest;
                    greatest = sums[letter];
                    best = letter;
                } else {
                    cost = Math.max(cost, sums[letter]);
                }
            }
        }

        private void divideCost(Plan plan) {
            int sum = best == NONE ? 0 : sums[best];
            int divided = 0;
            bidders = 0;
            for (int machine = 0; machine < plan.machines; machine++) {
                paid[machine] = 0;
                if (sum > 0 && wanted[machine] == best) {
                    bidders |= 1 << machine;
                    paid[machine] = cost * offered[machine] / sum;
                    divided += paid[machine];
                }
            }
            divideRest(plan, divided);
        }

        /** Each pass finds a coin, as the bids together are no less than the cost: so cost passes are enough. */
        private void divideRest(Plan plan, int divided) {
            int rest = cost - divided;
            for (int pass = 0; pass < cost && rest > 0; pass++) {
                for (int machine = 0; machine < plan.machines && rest > 0; machine++) {
                    if ((bidders >> machine & 1) == 1 && paid[machine] < offered[machine]) {
                        paid[machine]++;
                        rest--;
                    }
                }
            }
        }

        /** Plays rounds until the word is full; returns how many letters were told. */
        int playRounds(Plan plan, Standing now, int rounds) {
            int before = now.told;
            for (int round = 0; round < rounds && !now.isFull(); round++) {
                collect(plan, now);
                carryOut(plan, now);
            }
            return now.told - before;
        }

        private void carryOut(Plan plan, Standing now) {
            now.note(best, cost, bidders);
            if (best == NONE) {
                now.accounts[ACCOUNT_SILENT]++;
            } else {
                for (int machine = 0; machine < plan.machines; machine++) {
                    now.pay(machine, paid[machine], ACCOUNT_PRICES);
                }
                now.tell(plan, best, bidders);
            }
            now.endRound(plan);
        }
    }

    /**
     * Lets some machines of a plan read the same word side by side, from state 0 and without strengths. Their states
     * together are packed to a code with base 7, the digit 6 telling that a machine came to its end.
     */
    private static final class Search {
        private static final int BASE = MAX_STATES + 1;
        private static final int CODES = BASE * BASE * BASE * BASE;
        // Searches together drop codes with a machine at its end, and those apart have two machines.
        private static final int MAX_MET = MAX_STATES * MAX_STATES * MAX_STATES * MAX_STATES;

        private final int[] places = new int[CODES];
        private final int[] met = new int[MAX_MET];
        private final int[] origins = new int[MAX_MET];
        private int metCount;
        private long[] ways = new long[MAX_MET];
        private long[] longerWays = new long[MAX_MET];
        private int set;
        private boolean isApart;

        long count(Plan plan, int machines, int length) {
            begin(machines, false);
            explore(plan, false);
            for (int place = 0; place < metCount; place++) {
                ways[place] = isFound(plan, met[place]) ? 1 : 0;
            }
            for (int letters = 1; letters <= length; letters++) {
                for (int place = 0; place < metCount; place++) {
                    longerWays[place] = waysFrom(plan, met[place]);
                }
                long[] filled = longerWays;
                longerWays = ways;
                ways = filled;
            }
            return ways[0];
        }

        private long waysFrom(Plan plan, int code) {
            long sum = 0;
            for (int letter = 0; letter < plan.letters; letter++) {
                int to = step(plan, code, letter);
                if (to != NONE && places[to] > 0) {
                    sum += ways[places[to] - 1];
                }
            }
            return sum;
        }

        int lengthTogether(Plan plan, int machines) {
            begin(machines, false);
            return lengthTo(explore(plan, true));
        }

        int letterTogether(Plan plan, int machines, int k) {
            begin(machines, false);
            int place = explore(plan, true);
            int length = lengthTo(place);
            if (k < 0 || k >= length) {
                return NONE;
            }
            for (int i = length - 1; i > k; i--) {
                place = origins[place] / MAX_LETTERS;
            }
            return origins[place] % MAX_LETTERS;
        }

        int lengthApart(Plan plan, int machines) {
            begin(machines, true);
            return lengthTo(explore(plan, true));
        }

        private void begin(int machines, boolean apart) {
            for (int place = 0; place < metCount; place++) {
                places[met[place]] = 0;
            }
            metCount = 0;
            set = machines;
            isApart = apart;
            meet(0, 0);
        }

        private void meet(int code, int origin) {
            if (places[code] == 0 && metCount < MAX_MET) {
                met[metCount] = code;
                origins[metCount] = origin;
                metCount++;
                places[code] = metCount;
            }
        }

        /**
         * Meets codes in the order of their shortest words, of those as short in that of the alphabet; returns the
         * place of the first one that is looked for.
         */
        private int explore(Plan plan, boolean isFirstEnough) {
            for (int place = 0; place < MAX_MET && place < metCount; place++) {
                if (isFirstEnough && isFound(plan, met[place])) {
                    return place;
                }
                for (int letter = 0; letter < plan.letters; letter++) {
                    int to = step(plan, met[place], letter);
                    if (to != NONE) {
                        meet(to, place * MAX_LETTERS + letter);
                    }
                }
            }
            return NONE;
        }

        private int lengthTo(int place) {
            if (place == NONE) {
                return NONE;
            }
            int length = 0;
            for (int at = place; at > 0 && length < MAX_MET; at = origins[at] / MAX_LETTERS) {
                length++;
            }
            return length;
        }

        private int step(Plan plan, int code, int letter) {
            int to = 0;
            int rest = code;
            int digit = 1;
            for (int machine = 0; machine < plan.machines; machine++) {
                if ((set >> machine & 1) == 1) {
                    int state = rest % BASE;
                    int target = state == MAX_STATES ? NONE : plan.target(machine, state, letter);
                    if (target == NONE && !isApart) {
                        return NONE;
                    }
                    to += (target == NONE ? MAX_STATES : target) * digit;
                }
                rest /= BASE;
                digit *= BASE;
            }
            return to;
        }

        private boolean isFound(Plan plan, int code) {
            int accepting = 0;
            int rest = code;
            for (int machine = 0; machine < plan.machines; machine++) {
                // No bit stands for the digit of a machine that came to its end, so it never accepts.
                if ((set >> machine & 1) == 1 && plan.isGoal(machine, rest % BASE)) {
                    accepting++;
                }
                rest /= BASE;
            }
            return accepting == (isApart ? 1 : Integer.bitCount(set));
        }
    }

    /** The changes that can be undone, as a ring of what stood before each, and the two snapshots. */
    private static final class Past {
        int changes;
        private int nextChange;
        private int savedSlots;
        private final Standing[] befores = new Standing[MAX_CHANGES];
        private final Standing[] slots = new Standing[SLOTS];

        Past() {
            for (int i = 0; i < MAX_CHANGES; i++) {
                befores[i] = new Standing();
            }
            for (int i = 0; i < SLOTS; i++) {
                slots[i] = new Standing();
            }
        }

        void empty() {
            changes = 0;
            savedSlots = 0;
        }

        void keep(Standing now) {
            befores[nextChange].copyFrom(now);
            nextChange = nextChange + 1 < MAX_CHANGES ? nextChange + 1 : 0;
            changes = Math.min(changes + 1, MAX_CHANGES);
        }

        int takeBack(Standing now) {
            if (changes == 0) {
                return NONE;
            }
            nextChange = nextChange > 0 ? nextChange - 1 : MAX_CHANGES - 1;
            changes--;
            now.copyFrom(befores[nextChange]);
            return changes;
        }

        boolean isSaved(int slot) {
            return (savedSlots >> slot & 1) == 1;
        }

        boolean save(int slot, Standing now) {
            boolean wasSaved = isSaved(slot);
            slots[slot].copyFrom(now);
            savedSlots |= 1 << slot;
            return wasSaved;
        }

        void load(int slot, Standing now) {
            now.copyFrom(slots[slot]);
            changes = 0;
        }
    }
}
