import java.util.ArrayList;
import java.util.HashSet;
import java.util.List;
import java.util.Set;
import java.util.regex.Matcher;
import java.util.regex.Pattern;

/**
 * Reads a text in another way than the program: each token is tried against all that may stand at its place, the
 * codes that apply are gathered, and the smallest is taken.
 */
final class NaiveReader {
    private static final Pattern RUNS = Pattern.compile("[a-z]+|[0-9]+|[^ \n]");

    int code = 0;
    int position = -1;
    int letters;
    int turnRounds = 4;
    int turnPrice = 1;
    final List<NaiveAuction.Machine> machines = new ArrayList<>();

    private static final class Stop extends RuntimeException {
        private static final long serialVersionUID = 1;
    }

    private final List<String> tokens = new ArrayList<>();
    private final List<Integer> starts = new ArrayList<>();
    private final Set<String> said = new HashSet<>();
    private int at = 0;

    NaiveReader(String text) {
        Matcher m = RUNS.matcher(text);
        while (m.find()) {
            tokens.add(m.group());
            starts.add(m.start());
        }
        tokens.add("");
        starts.add(text.length());
        try {
            auction();
        } catch (Stop stop) {
            position = starts.get(at);
        }
    }

    private void auction() {
        unless(1, token().equals("letters"));
        at++;
        letters = number(1, 4);
        semicolon();
        while (!token().isEmpty()) {
            statement();
            semicolon();
        }
    }

    private void statement() {
        String keyword = token();
        unless(1, List.of("machine", "go", "accept", "tire", "turn").contains(keyword));
        unless(5, !keyword.equals("machine") || machines.size() < 4);
        unless(2, !keyword.equals("turn") || said.add("turn"));
        at++;
        switch (keyword) {
            case "machine" -> machine();
            case "turn" -> {
                turnRounds = number(1, 20);
                turnPrice = number(0, 99);
            }
            default -> ofMachine(keyword);
        }
    }

    private void machine() {
        unless(1, isWord());
        unless(2, said.add("name " + token()));
        NaiveAuction.Machine m = new NaiveAuction.Machine();
        m.name = token();
        at++;
        m.coins = number(0, 999);
        m.weight = number(1, 9);
        m.states = number(1, 6);
        if (token().equals("listens")) {
            m.listens = true;
            at++;
        }
        machines.add(m);
    }

    private void ofMachine(String keyword) {
        unless(1, isWord());
        unless(4, said.contains("name " + token()));
        String name = token();
        NaiveAuction.Machine m = machines.stream().filter(each -> each.name.equals(name)).findFirst().get();
        at++;
        int state = number(0, m.states - 1);
        String place = keyword + " " + name + " " + state;
        switch (keyword) {
            case "go" -> {
                unless(1, isWord());
                int letter = "abcd".substring(0, letters).indexOf(token());
                unless(3, letter >= 0 && token().length() == 1);
                unless(2, said.add(place + " " + letter));
                at++;
                m.go.put(List.of(state, letter), number(0, m.states - 1));
            }
            case "accept" -> {
                at--;
                unless(2, said.add(place));
                at++;
                m.accept.add(state);
            }
            default -> {
                at--;
                unless(2, said.add(place));
                at++;
                m.times.put(state, number(1, 99));
            }
        }
    }

    private String token() {
        return tokens.get(at);
    }

    private boolean isWord() {
        return token().matches("[a-z]{1,8}");
    }

    private int number(int least, int most) {
        unless(1, token().matches("[0-9]{1,3}"));
        int number = Integer.parseInt(token());
        unless(3, number >= least && number <= most);
        at++;
        return number;
    }

    private void semicolon() {
        unless(1, token().equals(";"));
        at++;
    }

    private void unless(int error, boolean right) {
        if (!right) {
            code = error;
            throw new Stop();
        }
    }
}
