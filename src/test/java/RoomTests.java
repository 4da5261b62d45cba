import java.lang.management.ManagementFactory;

/** All room is taken by the constructor: calls that throw nothing make no objects (LANGUAGE.md, rule 12). */
final class RoomTests {
    private static final String TEXT = "letters 2;machine x 99 1 3 listens;machine y 88 2 3 listens;machine z 77 1 2;"
        + "go x 0 a 1;go x 1 b 2;go x 2 a 0;accept x 2;go y 0 a 0;go y 0 b 1;go y 1 a 2;accept y 1;go z 0 a 0;accept z 0;"
        + "tire x 1 9;turn 3 2;";

    private RoomTests() {
    }

    static void run() {
        com.sun.management.ThreadMXBean threads = (com.sun.management.ThreadMXBean) ManagementFactory.getThreadMXBean();
        long self = Thread.currentThread().getId();
        LetterAuction[] made = new LetterAuction[10];
        callAll(new LetterAuction());
        long before = threads.getThreadAllocatedBytes(self);
        for (int i = 0; i < made.length; i++) {
            made[i] = new LetterAuction();
        }
        long anObject = (threads.getThreadAllocatedBytes(self) - before) / made.length;
        Check.yes("an auction takes less than 80 KB, not " + anObject, anObject < 80_000);
        before = threads.getThreadAllocatedBytes(self);
        for (LetterAuction x : made) {
            callAll(x);
            callAll(x);
        }
        long calls = threads.getThreadAllocatedBytes(self) - before;
        Check.yes("calls take no room, not " + calls, calls < 1_000);
    }

    private static void callAll(LetterAuction x) {
        Feed.feed(x);
        x.parse(Feed.LENGTH);
        x.errorPosition();
        for (int n = 0; n < 12; n++) {
            x.play(3);
            x.setWeight(n % 3, n % 9 + 1);
            x.give(n % 3, 0, 0);
        }
        for (int machine = 0; machine < 3; machine++) {
            x.machine(machine, 1);
            x.distance(machine, 0);
            x.whyNotBid(machine, 1);
            x.bidLetter(machine);
            x.pays(machine);
            x.accepts(machine);
            x.coinsAfter(machine, 20);
            x.differs(machine, 0);
        }
        x.sum(0);
        x.winner();
        x.price();
        x.isAgreed();
        x.words(7, 20);
        x.shortest(7);
        x.shortestLetter(7, 1);
        x.log(3, 2);
        x.account(4);
        x.undo();
        x.saveSnapshot(1);
        x.restoreSnapshot(1);
    }

    /** The text as numbers that are made before the room is measured. */
    private static final class Feed {
        static final int LENGTH = TEXT.length();
        private static final int[] FOURS = fours();

        private static int[] fours() {
            int[] fours = new int[(LENGTH + 19) / 20 * 5];
            for (int i = 0; i < fours.length * 4; i++) {
                fours[i / 4] = fours[i / 4] << 8 | (i < LENGTH ? TEXT.charAt(i) : ' ');
            }
            return fours;
        }

        static void feed(LetterAuction x) {
            for (int i = 0; i < FOURS.length; i += 5) {
                x.append(FOURS[i], FOURS[i + 1], FOURS[i + 2], FOURS[i + 3], FOURS[i + 4]);
            }
        }
    }
}
