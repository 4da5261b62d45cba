import java.util.ArrayDeque;
import java.util.ArrayList;
import java.util.Arrays;
import java.util.Collections;
import java.util.Deque;
import java.util.HashMap;
import java.util.HashSet;
import java.util.List;
import java.util.Map;
import java.util.Set;
import java.util.TreeMap;

/** The document once more, written with lists and maps and whole copies, to compare the program with. */
final class NaiveAuction {
    static final class Machine {
        String name;
        int coins;
        int weight;
        int states;
        boolean listens;
        Map<List<Integer>, Integer> go = new HashMap<>();
        Set<Integer> accept = new HashSet<>();
        Map<Integer, Integer> times = new HashMap<>();
        Map<Integer, Integer> strength = new HashMap<>();
        int state;
        int went;
        int balked;

        Machine copy() {
            Machine m = new Machine();
            m.name = name;
            m.coins = coins;
            m.weight = weight;
            m.states = states;
            m.listens = listens;
            m.go = go;
            m.accept = accept;
            m.times = times;
            m.strength = new HashMap<>(strength);
            m.state = state;
            m.went = went;
            m.balked = balked;
            return m;
        }

        boolean tired(int s) {
            return strength.containsKey(s) && strength.get(s) == 0;
        }

        /** By a search from the state with a queue; the program goes the other way, from the accepting states. */
        Integer distance(int from, int letters) {
            Map<Integer, Integer> far = new HashMap<>();
            Deque<Integer> queue = new ArrayDeque<>();
            far.put(from, 0);
            queue.add(from);
            while (!queue.isEmpty()) {
                int s = queue.remove();
                if (accept.contains(s)) {
                    return far.get(s);
                }
                for (int l = 0; l < letters; l++) {
                    Integer t = go.get(List.of(s, l));
                    if (t != null && !tired(t) && !far.containsKey(t)) {
                        far.put(t, far.get(s) + 1);
                        queue.add(t);
                    }
                }
            }
            return null;
        }

        boolean canGo(int letter) {
            Integer t = go.get(List.of(state, letter));
            return t != null && !tired(t);
        }

        void goBy(int letter) {
            state = go.get(List.of(state, letter));
            strength.computeIfPresent(state, (s, n) -> n - 1);
            went++;
        }

        void restart() {
            state = 0;
            strength = new HashMap<>(times);
        }

        boolean accepts(List<Integer> word) {
            Integer s = 0;
            for (int l : word) {
                s = go.get(List.of(s, l));
                if (s == null) {
                    return false;
                }
            }
            return accept.contains(s);
        }
    }

    static final class State {
        List<Machine> machines = new ArrayList<>();
        List<Integer> word = new ArrayList<>();
        List<int[]> log = new ArrayList<>();
        int[] accounts = new int[6];
        int rounds;
        int chest;
        int turn;

        State copy() {
            State s = new State();
            for (Machine m : machines) {
                s.machines.add(m.copy());
            }
            s.word = new ArrayList<>(word);
            s.log = new ArrayList<>(log);
            s.accounts = accounts.clone();
            s.rounds = rounds;
            s.chest = chest;
            s.turn = turn;
            return s;
        }
    }

    int letters = 1;
    int turnRounds = 4;
    int turnPrice = 1;
    State now = new State();
    private final Deque<State> undo = new ArrayDeque<>();
    private final State[] slots = new State[2];
    private String buffer = "";
    private int errorPosition = -1;

    int append(String twenty) {
        if (buffer.length() + 20 > 600) {
            return -1;
        }
        buffer += twenty;
        return buffer.length();
    }

    int parse(int length) {
        argument(length >= 0 && length <= buffer.length());
        NaiveReader reader = new NaiveReader(buffer.substring(0, length));
        buffer = "";
        errorPosition = reader.position;
        if (reader.code == 0) {
            letters = reader.letters;
            turnRounds = reader.turnRounds;
            turnPrice = reader.turnPrice;
            now = new State();
            now.machines = reader.machines;
            now.machines.forEach(Machine::restart);
            undo.clear();
            Arrays.fill(slots, null);
        }
        return reader.code;
    }

    int errorPosition() {
        return errorPosition;
    }

    int size(int what) {
        argument(what >= 0 && what <= 8);
        return new int[] {now.machines.size(), letters, now.word.size(), now.rounds, now.chest,
            now.machines.isEmpty() ? -1 : now.turn, turnRounds, turnPrice, undo.size()}[what];
    }

    int machine(int machine, int what) {
        Machine m = at(machine);
        argument(what >= 0 && what <= 6);
        return new int[] {m.state, m.coins, m.weight, m.states, m.listens ? 1 : 0, m.went, m.balked}[what];
    }

    int strength(int machine, int state) {
        return at(machine, state).strength.getOrDefault(state, -1);
    }

    boolean isAccepting(int machine, int state) {
        return at(machine, state).accept.contains(state);
    }

    int goes(int machine, int state, int letter) {
        Machine m = at(machine, state);
        index(letter >= 0 && letter < letters);
        return m.go.getOrDefault(List.of(state, letter), -1);
    }

    int distance(int machine, int state) {
        Integer far = at(machine, state).distance(state, letters);
        return far == null ? -1 : far;
    }

    int whyNotBid(int machine, int letter) {
        Machine m = at(machine);
        index(letter >= 0 && letter < letters);
        Integer t = m.go.get(List.of(m.state, letter));
        if (t == null) {
            return 1;
        }
        if (m.tired(t)) {
            return 2;
        }
        if (m.distance(t, letters) == null) {
            return 3;
        }
        if (m.coins == 0) {
            return 4;
        }
        for (int other = 0; other < letters; other++) {
            int more = worth(m, other) - worth(m, letter);
            if (more > 0 || more == 0 && other < letter) {
                return 5;
            }
        }
        return 0;
    }

    private int worth(Machine m, int letter) {
        Integer far = m.canGo(letter) ? m.distance(m.go.get(List.of(m.state, letter)), letters) : null;
        return far == null ? -1 : m.weight * (7 - far);
    }

    int bidLetter(int machine) {
        at(machine);
        for (int letter = 0; letter < letters; letter++) {
            if (whyNotBid(machine, letter) == 0) {
                return letter;
            }
        }
        return -1;
    }

    int bid(int machine) {
        int letter = bidLetter(machine);
        return letter == -1 ? 0 : Math.min(worth(at(machine), letter), at(machine).coins);
    }

    int sum(int letter) {
        index(letter >= 0 && letter < letters);
        int sum = 0;
        for (int m = 0; m < now.machines.size(); m++) {
            sum += bidLetter(m) == letter ? bid(m) : 0;
        }
        return sum;
    }

    private List<Integer> sums() {
        List<Integer> sums = new ArrayList<>();
        for (int letter = 0; letter < letters; letter++) {
            sums.add(sum(letter));
        }
        return sums;
    }

    int winner() {
        List<Integer> sums = sums();
        int most = Collections.max(sums);
        return most == 0 ? -1 : sums.indexOf(most);
    }

    int price() {
        if (winner() == -1) {
            return 0;
        }
        List<Integer> sums = sums();
        sums.remove(winner());
        return sums.isEmpty() ? 0 : Collections.max(sums);
    }

    int pays(int machine) {
        at(machine);
        return payments()[machine];
    }

    private int[] payments() {
        int[] paid = new int[now.machines.size()];
        int winner = winner();
        int price = price();
        int total = 0;
        List<Integer> who = new ArrayList<>();
        for (int m = 0; m < paid.length; m++) {
            if (winner != -1 && bidLetter(m) == winner) {
                who.add(m);
                paid[m] = price * bid(m) / sum(winner);
                total += paid[m];
            }
        }
        while (total < price) {
            for (int m : who) {
                if (total < price && paid[m] < bid(m)) {
                    paid[m]++;
                    total++;
                }
            }
        }
        return paid;
    }

    int coinsAfter(int machine, int rounds) {
        at(machine);
        argument(rounds >= 1 && rounds <= 20);
        State kept = now;
        now = now.copy();
        rounds(rounds);
        int coins = at(machine).coins;
        now = kept;
        return coins;
    }

    int letter(int k) {
        return k < 0 || k >= now.word.size() ? -1 : now.word.get(k);
    }

    boolean accepts(int machine) {
        return at(machine).accepts(now.word);
    }

    boolean isAgreed() {
        return !now.machines.isEmpty() && now.machines.stream().allMatch(m -> m.accept.contains(m.state));
    }

    private List<Machine> set(int bits) {
        index((bits & -(1 << now.machines.size())) == 0);
        List<Machine> set = new ArrayList<>();
        for (int m = 0; m < now.machines.size(); m++) {
            if ((bits & 1 << m) != 0) {
                set.add(now.machines.get(m));
            }
        }
        return set;
    }

    private static List<Integer> start(List<Machine> set) {
        return Collections.nCopies(set.size(), 0);
    }

    private static List<Integer> step(List<Machine> set, List<Integer> states, int letter) {
        List<Integer> to = new ArrayList<>();
        for (int i = 0; i < set.size(); i++) {
            to.add(set.get(i).go.getOrDefault(List.of(states.get(i), letter), -1));
        }
        return to;
    }

    private static int accepting(List<Machine> set, List<Integer> states) {
        int n = 0;
        for (int i = 0; i < set.size(); i++) {
            n += set.get(i).accept.contains(states.get(i)) ? 1 : 0;
        }
        return n;
    }

    long words(int machines, int length) {
        List<Machine> set = set(machines);
        argument(length >= 0 && length <= 20);
        Map<List<Integer>, Long> ways = new HashMap<>(Map.of(start(set), 1L));
        for (int n = 0; n < length; n++) {
            Map<List<Integer>, Long> longer = new HashMap<>();
            for (Map.Entry<List<Integer>, Long> e : ways.entrySet()) {
                for (int letter = 0; letter < letters; letter++) {
                    longer.merge(step(set, e.getKey(), letter), e.getValue(), Long::sum);
                }
            }
            ways = longer;
        }
        long sum = 0;
        for (Map.Entry<List<Integer>, Long> e : ways.entrySet()) {
            sum += accepting(set, e.getKey()) == set.size() ? e.getValue() : 0;
        }
        return sum;
    }

    /** Level by level, each state with its first word, the words in the order of the alphabet. */
    private String shortestWord(List<Machine> set, int due) {
        Set<List<Integer>> met = new HashSet<>();
        TreeMap<String, List<Integer>> level = new TreeMap<>(Map.of("", start(set)));
        while (!level.isEmpty()) {
            TreeMap<String, List<Integer>> next = new TreeMap<>();
            for (Map.Entry<String, List<Integer>> e : level.entrySet()) {
                if (accepting(set, e.getValue()) == due) {
                    return e.getKey();
                }
                if (met.add(e.getValue())) {
                    for (int letter = 0; letter < letters; letter++) {
                        next.put(e.getKey() + letter, step(set, e.getValue(), letter));
                    }
                }
            }
            level = next;
        }
        return null;
    }

    int shortest(int machines) {
        List<Machine> set = set(machines);
        String word = shortestWord(set, set.size());
        return word == null ? -1 : word.length();
    }

    int shortestLetter(int machines, int k) {
        List<Machine> set = set(machines);
        String word = shortestWord(set, set.size());
        return word == null || k < 0 || k >= word.length() ? -1 : word.charAt(k) - '0';
    }

    int differs(int machine, int other) {
        List<Machine> pair = List.of(at(machine), at(other));
        String word = shortestWord(pair, 1);
        return word == null ? -1 : word.length();
    }

    int log(int k, int part) {
        argument(part >= 0 && part <= 3);
        return k < 0 || k >= 20 || k >= now.log.size() ? -1 : now.log.get(now.log.size() - 1 - k)[part];
    }

    int account(int what) {
        argument(what >= 0 && what <= 5);
        return now.accounts[what];
    }

    int play(int rounds) {
        argument(rounds >= 1 && rounds <= 20);
        state(now.word.size() < 60);
        change();
        return rounds(rounds);
    }

    private int rounds(int rounds) {
        int told = 0;
        for (int n = 0; n < rounds && now.word.size() < 60; n++) {
            told += round();
        }
        return told;
    }

    private int round() {
        int winner = winner();
        int price = price();
        int[] paid = payments();
        int bits = 0;
        for (int m = 0; m < paid.length; m++) {
            bits |= winner != -1 && bidLetter(m) == winner ? 1 << m : 0;
        }
        now.log.add(new int[] {winner, price, bits, now.rounds});
        if (winner == -1) {
            now.accounts[5]++;
        } else {
            now.accounts[0] += price;
            now.chest += price;
            for (int m = 0; m < paid.length; m++) {
                now.machines.get(m).coins -= paid[m];
            }
            tell(winner, bits);
        }
        now.rounds++;
        int n = now.machines.size();
        if (n > 0 && now.rounds % turnRounds == 0) {
            Machine m = now.machines.get(now.turn);
            if (m.coins >= turnPrice) {
                payReset(m, turnPrice);
            }
            now.turn = (now.turn + 1) % n;
            int share = now.chest / n;
            now.machines.forEach(each -> each.coins += share);
            now.chest -= share * n;
            now.accounts[4] += share * n;
        }
        return winner == -1 ? 0 : 1;
    }

    private void tell(int letter, int bits) {
        now.word.add(letter);
        for (int i = 0; i < now.machines.size(); i++) {
            Machine m = now.machines.get(i);
            if ((bits & 1 << i) != 0) {
                m.goBy(letter);
            } else if (m.listens && m.canGo(letter)) {
                m.goBy(letter);
            } else if (m.listens) {
                m.balked++;
                int paid = m.coins > 0 ? 1 : 0;
                m.coins -= paid;
                now.chest += paid;
                now.accounts[2] += paid;
            }
        }
    }

    private void payReset(Machine m, int price) {
        m.coins -= price;
        now.chest += price;
        now.accounts[3] += price;
        m.restart();
    }

    int buy(int machine, int letter) {
        at(machine);
        index(letter >= 0 && letter < letters);
        Machine old = at(machine);
        state(now.word.size() < 60 && old.canGo(letter) && old.coins >= old.weight);
        change();
        Machine m = at(machine);
        m.coins -= m.weight;
        now.chest += m.weight;
        now.accounts[1] += m.weight;
        now.log.add(new int[] {letter, m.weight, 1 << machine, now.rounds});
        tell(letter, 1 << machine);
        return now.word.size();
    }

    int reset(int machine) {
        state(at(machine).coins >= 2 * turnPrice);
        change();
        payReset(at(machine), 2 * turnPrice);
        return at(machine).coins;
    }

    int give(int machine, int other, int coins) {
        at(machine);
        at(other);
        argument(coins >= 0 && coins <= 999);
        state(at(machine).coins >= coins);
        change();
        at(machine).coins -= coins;
        at(other).coins += coins;
        return at(other).coins;
    }

    int setWeight(int machine, int weight) {
        at(machine);
        argument(weight >= 1 && weight <= 9);
        change();
        int previous = at(machine).weight;
        at(machine).weight = weight;
        return previous;
    }

    int undo() {
        if (undo.isEmpty()) {
            return -1;
        }
        now = undo.removeLast();
        return undo.size();
    }

    boolean saveSnapshot(int slot) {
        index(slot == 0 || slot == 1);
        boolean was = slots[slot] != null;
        slots[slot] = now.copy();
        return was;
    }

    int restoreSnapshot(int slot) {
        index(slot == 0 || slot == 1);
        state(slots[slot] != null);
        now = slots[slot].copy();
        undo.clear();
        return now.word.size();
    }

    private void change() {
        undo.add(now);
        now = now.copy();
        if (undo.size() > 10) {
            undo.removeFirst();
        }
    }

    private Machine at(int machine) {
        index(machine >= 0 && machine < now.machines.size());
        return now.machines.get(machine);
    }

    private Machine at(int machine, int state) {
        Machine m = at(machine);
        index(state >= 0 && state < m.states);
        return m;
    }

    private static void index(boolean right) {
        if (!right) {
            throw new IndexOutOfBoundsException();
        }
    }

    private static void argument(boolean right) {
        if (!right) {
            throw new IllegalArgumentException();
        }
    }

    private static void state(boolean right) {
        if (!right) {
            throw new IllegalStateException();
        }
    }
}
