import java.util.function.Supplier;

/**
 * What each promise takes and what it refuses: the last value that is allowed and the first that is not, on both
 * sides. A refused call is made in a state where it could have changed something, and all calls behind it must answer
 * as if it had not been made; a call at the edge that is taken must leave its trace, which shows that they would tell.
 */
public final class CallsEdgesTest extends Checks {
    private interface Call {
        long on(WatchBill x);
    }

    private static final String NOTHING_CHANGES = "What is refused answers REFUSED, and nothing changes; ";

    public static void main(String[] args) {
        newObject();
        enlist();
        promote();
        demote();
        noSuchMember();
        dutyWithinBound("Promise 5: REFUSED: n beyond the BOUND (TOIL 0 .. 100)", TOIL, 0, 3400);
        dutyWithinBound("Promise 6: REFUSED as for toil() (PAY 0 .. 1000)", PAY, 0, 7000);
        dutyWithinBound("Promise 7: REFUSED as for toil() (CLIMB 0 .. 200)", CLIMB, 0, -1);
        dutyWithinBound("Promise 8: REFUSED as for toil() (HEED 0 .. 9999)", HEED, 0, 969);
        race();
        due();
        feed();
        watch();
        watchOfPay();
        line();
        lineThatIsEmptied();
        sail();
        sailForRanks();
        sailOfPay();
        rest();
        told();
        note();
        end();
    }

    private static void refused(String sentence, String text, Supplier<WatchBill> state, Call call) {
        WatchBill x = state.get();
        is(NOTHING_CHANGES + sentence, text, call.on(x), REFUSED);
        String got = answersBehind(x);
        String want = answersBehind(state.get());
        if (!got.equals(want)) fail(NOTHING_CHANGES + sentence, text + " changed what comes behind it:\n" + want + "\n" + got);
    }

    private static void taken(String sentence, String text, Supplier<WatchBill> state, Call call, long want) {
        WatchBill x = state.get();
        is(sentence, text, call.on(x), want);
        if (answersBehind(x).equals(answersBehind(state.get()))) fail(sentence, text + " changed nothing");
    }

    /** With those that made the state, some 350 of the 512 calls that an object has. */
    private static String answersBehind(WatchBill x) {
        StringBuilder text = new StringBuilder(stateOf(x));
        Call[] calls = {
            y -> y.sail(1), y -> y.notes(), y -> y.watch(TOIL, 7), y -> y.watch(PAY, 7), y -> y.watch(CLIMB, 7),
            y -> y.watch(HEED, 7), y -> y.race(5, 7, 7), y -> y.due(7, 7, 7), y -> y.feed(6, 70), y -> y.pay(0, 7),
            y -> y.promote(0), y -> y.demote(7), y -> y.enlist(TOPMAN, 7), y -> y.rest(7), y -> y.sail(2)
        };
        for (Call call : calls) text.append(" / ").append(call.on(x));
        return text.append(" / ").append(stateOf(x)).toString();
    }

    /** A member of each rank, weary and paid, a full plan, and notes (42, 12) that few calls make. */
    private static WatchBill busy() {
        WatchBill x = crewOf(25, RANKS);
        x.watch(TOIL, 100);
        for (int k = 0; k < 8; k++) x.pay(k, 10 + k);
        for (int i = 0; i < 8; i++) x.line(i, i % 4, 5 + i, i / 3, 7 - i / 3);
        x.climb(4, 3);
        return x;
    }

    private static WatchBill busyWith(int members) {
        WatchBill x = busy();
        for (int k = 8; k < members; k++) x.enlist(k % 8, k);
        return x;
    }

    private static void newObject() {
        String sentence = "Promise 1: No MEMBERS, an empty PLAN";
        Supplier<WatchBill> fresh = WatchBill::new;
        refused(sentence, "promote(0)", fresh, x -> x.promote(0));
        refused(sentence, "demote(0)", fresh, x -> x.demote(0));
        refused(sentence, "toil(0, 0)", fresh, x -> x.toil(0, 0));
        refused(sentence, "pay(0, 0)", fresh, x -> x.pay(0, 0));
        refused(sentence, "climb(0, 0)", fresh, x -> x.climb(0, 0));
        refused(sentence, "heed(0, 0)", fresh, x -> x.heed(0, 0));
        refused(sentence, "race(0, 0, 0)", fresh, x -> x.race(0, 0, 0));
        refused(sentence, "due(0, 0, 0)", fresh, x -> x.due(0, 0, 0));
        refused(sentence, "feed(0, 0)", fresh, x -> x.feed(0, 0));
        refused(sentence, "told(0, 0)", fresh, x -> x.told(0, 0));
        refused(sentence, "note(0)", fresh, x -> x.note(0));
        is(sentence, "notes()", new WatchBill().notes(), 0);
        is(sentence, "rest(1000)", new WatchBill().rest(1000), 0);
        is(sentence, "sail(20)", new WatchBill().sail(20), 0);
        for (int d = TOIL; d <= HEED; d++) is(sentence, "watch(" + d + ", 1)", new WatchBill().watch(d, 1), 0);
        taken(sentence, "enlist(HAND, 0)", fresh, x -> x.enlist(HAND, 0), 0);
        // Two objects have nothing in common.
        WatchBill one = busy();
        WatchBill other = new WatchBill();
        is(sentence, "told(0, RANK) of another object", other.told(0, RANK), REFUSED);
        other.enlist(HAND, 0);
        is(sentence, "sail(20) of another object", other.sail(20), 0);
        is(sentence, "notes() of the first object", one.notes(), 2);
    }

    private static void enlist() {
        String sentence = "Promise 2: a RANK 0 .. 7, with a SKILL 0 .. 99; REFUSED: another RANK or SKILL, 12 MEMBERS";
        Supplier<WatchBill> state = CallsEdgesTest::busy;
        int[] ranks = {-1, 8, LEAST, MOST};
        for (int rank : ranks) refused(sentence, "enlist(" + rank + ", 25)", state, x -> x.enlist(rank, 25));
        int[] skills = {-1, 100, LEAST, MOST};
        for (int skill : skills) refused(sentence, "enlist(0, " + skill + ")", state, x -> x.enlist(HAND, skill));
        taken(sentence, "enlist(0, 0)", state, x -> x.enlist(HAND, 0), 8);
        taken(sentence, "enlist(0, 99)", state, x -> x.enlist(HAND, 99), 8);
        taken(sentence, "enlist(7, 0)", state, x -> x.enlist(SURGEON, 0), 8);
        taken(sentence, "enlist(7, 99)", state, x -> x.enlist(SURGEON, 99), 8);
        taken(sentence, "enlist of the 12th", () -> busyWith(11), x -> x.enlist(HAND, 25), 11);
        refused(sentence, "enlist of a 13th", () -> busyWith(12), x -> x.enlist(HAND, 25));
        String number = "Promise 2: its number, the least that none has had";
        WatchBill x = new WatchBill();
        for (int k = 0; k < 12; k++) {
            x.enlist(8, 0);
            x.enlist(HAND, 100);
            is(number, "enlist behind refused ones", x.enlist(HAND, 0), k);
        }
    }

    private static void promote() {
        String sentence = "Promise 3: the RANK whose ELDER is its RANK (of HAND: SAILOR); REFUSED: MASTER, SURGEON";
        Supplier<WatchBill> state = CallsEdgesTest::busy;
        long[] want = {SAILOR, TOPMAN, BOSUN, MATE, MASTER, REFUSED, SURGEON, REFUSED};
        for (int k : RANKS) {
            if (want[k] == REFUSED) {
                refused(sentence, "promote(" + k + ")", state, x -> x.promote(k));
            } else {
                taken(sentence, "promote(" + k + ")", state, x -> x.promote(k), want[k]);
                restStays("Promise 3: SKILL, WEARY, PURSE stay", k, x -> x.promote(k));
            }
        }
    }

    private static void demote() {
        String sentence = "Promise 4: its RANK's ELDER; REFUSED: HAND";
        Supplier<WatchBill> state = CallsEdgesTest::busy;
        long[] want = {REFUSED, HAND, SAILOR, TOPMAN, BOSUN, MATE, HAND, COOK};
        for (int k : RANKS) {
            if (want[k] == REFUSED) {
                refused(sentence, "demote(" + k + ")", state, x -> x.demote(k));
            } else {
                taken(sentence, "demote(" + k + ")", state, x -> x.demote(k), want[k]);
                restStays("Promise 4: The rest stays", k, x -> x.demote(k));
            }
        }
    }

    private static void restStays(String sentence, int k, Call call) {
        WatchBill before = busy();
        WatchBill x = busy();
        is(sentence, "told(" + k + ", RANK)", call.on(x), x.told(k, RANK));
        for (int what = SKILL; what <= PURSE; what++) {
            is(sentence, "told(" + k + ", " + what + ")", x.told(k, what), before.told(k, what));
        }
        notesAre(sentence, x, 42, 12);
    }

    private static void noSuchMember() {
        String sentence = "REFUSED: no such MEMBER";
        Supplier<WatchBill> state = CallsEdgesTest::busy;
        int[] none = {-1, 8, 11, 12, LEAST, MOST};
        for (int k : none) {
            refused(sentence, "promote(" + k + ")", state, x -> x.promote(k));
            refused(sentence, "demote(" + k + ")", state, x -> x.demote(k));
            refused(sentence, "toil(" + k + ", 5)", state, x -> x.toil(k, 5));
            refused(sentence, "pay(" + k + ", 5)", state, x -> x.pay(k, 5));
            refused(sentence, "climb(" + k + ", 5)", state, x -> x.climb(k, 5));
            refused(sentence, "heed(" + k + ", 5)", state, x -> x.heed(k, 5));
            refused(sentence, "race(" + k + ", 5, 5)", state, x -> x.race(k, 5, 5));
            refused(sentence, "due(" + k + ", 5, 5)", state, x -> x.due(k, 5, 5));
            refused(sentence, "feed(" + k + ", 5)", state, x -> x.feed(k, 5));
            refused(sentence, "told(" + k + ", 0)", state, x -> x.told(k, RANK));
        }
        Supplier<WatchBill> full = () -> busyWith(12);
        refused(sentence, "toil(12, 5) of a full crew", full, x -> x.toil(12, 5));
        refused(sentence, "toil(-1, 5) of a full crew", full, x -> x.toil(-1, 5));
        // Member 11 is a BOSUN of skill 11.
        taken(sentence, "toil(11, 5) of a full crew", full, x -> x.toil(11, 5), 5 * 21 + 15);
    }

    /** The least and the most that a duty is done with, by the HAND: what they answer. */
    private static void dutyWithinBound(String sentence, int d, long ofLeast, long ofMost) {
        String name = new String[] {"toil", "pay", "climb", "heed"}[d];
        Supplier<WatchBill> state = CallsEdgesTest::busy;
        for (int n : beyond(BOUNDS[d])) {
            for (int k : RANKS) refused(sentence, name + "(" + k + ", " + n + ")", state, x -> does(x, k, d, n));
        }
        taken(sentence, name + "(0, 0)", state, x -> does(x, 0, d, 0), ofLeast);
        taken(sentence, name + "(0, " + BOUNDS[d] + ")", state, x -> does(x, 0, d, BOUNDS[d]), ofMost);
    }

    private static int[] beyond(int most) {
        return new int[] {-1, most + 1, LEAST, MOST};
    }

    private static void race() {
        Supplier<WatchBill> state = CallsEdgesTest::busy;
        String bound = "Promise 9: REFUSED as for climb()";
        for (int n : beyond(200)) {
            refused(bound, "race(2, " + n + ", 1)", state, x -> x.race(2, n, 1));
            refused(bound, "race(2, " + n + ", 0)", state, x -> x.race(2, n, 0));
        }
        taken(bound, "race(2, 0, 1)", state, x -> x.race(2, 0, 1), 0);
        taken(bound, "race(2, 200, 1)", state, x -> x.race(2, 200, 1), 0);
        String times = "Promise 9: at most m times (0 .. 20); REFUSED: m is another";
        for (int m : beyond(20)) {
            refused(times, "race(2, 10, " + m + ")", state, x -> x.race(2, 10, m));
            refused(times, "race(5, 10, " + m + ") of a MASTER", state, x -> x.race(5, 10, m));
        }
        taken(times, "race(2, 10, 0)", state, x -> x.race(2, 10, 0), 0);
        taken(times, "race(2, 10, 20)", state, x -> x.race(2, 10, 20), 600);
        String office = "Promise 9: REFUSED: no CLIMBER (RANKS 2 .. 5)";
        long[] want = {REFUSED, REFUSED, 60, 60, 62, 124, REFUSED, REFUSED};
        for (int k : RANKS) {
            if (want[k] == REFUSED) {
                refused(office, "race(" + k + ", 10, 2)", state, x -> x.race(k, 10, 2));
            } else {
                taken(office, "race(" + k + ", 10, 2)", state, x -> x.race(k, 10, 2), want[k]);
            }
        }
        officeChanges(office, SAILOR, TOPMAN, x -> x.race(0, 10, 2), 60);
    }

    private static void due() {
        Supplier<WatchBill> state = CallsEdgesTest::busy;
        String bound = "Promise 10: REFUSED as for pay()";
        for (int n : beyond(1000)) refused(bound, "due(1, " + n + ", 5)", state, x -> x.due(1, n, 5));
        taken(bound, "due(1, 0, 5)", state, x -> x.due(1, 0, 5), 0);
        taken(bound, "due(1, 1000, 5)", state, x -> x.due(1, 1000, 5), 6995);
        String less = "Promise 10: REFUSED: x is below 0";
        refused(less, "due(1, 5, -1)", state, x -> x.due(1, 5, -1));
        refused(less, "due(1, 5, LEAST)", state, x -> x.due(1, 5, LEAST));
        taken(less, "due(1, 5, 0)", state, x -> x.due(1, 5, 0), 35);
        taken(less, "due(1, 5, MOST)", state, x -> x.due(1, 5, MOST), 0);
        String office = "Promise 10: no PURSE changes; REFUSED: no PAYEE (RANKS 1 .. 7)";
        refused(office, "due(0, 5, 5)", state, x -> x.due(0, 5, 5));
        // Three are below BOSUN, the MASTER's WEARY is 25, and nobody's is above 500.
        long[] want = {REFUSED, 30, 30, 55, 55, 115, 30, 30};
        for (int k = 1; k < 8; k++) {
            int payee = k;
            taken(office, "due(" + k + ", 5, 5)", state, x -> x.due(payee, 5, 5), want[k]);
            WatchBill x = busy();
            long before = x.told(k, PURSE);
            x.due(k, 5, 5);
            is(office, "told(" + k + ", PURSE)", x.told(k, PURSE), before);
        }
        officeChanges(office, HAND, SAILOR, x -> x.due(0, 5, 5), 30);
    }

    private static void feed() {
        Supplier<WatchBill> state = CallsEdgesTest::busy;
        String bound = "Promise 11: REFUSED as for toil()";
        for (int n : beyond(100)) {
            refused(bound, "feed(6, " + n + ")", state, x -> x.feed(6, n));
            refused(bound, "feed(7, " + n + ")", state, x -> x.feed(7, n));
        }
        taken(bound, "feed(6, 0)", state, x -> x.feed(6, 0), 0);
        taken(bound, "feed(6, 100)", state, x -> x.feed(6, 100), 34);
        String office = "Promise 11: REFUSED: no CARER (RANKS 6, 7)";
        for (int k = 0; k < 6; k++) {
            int other = k;
            refused(office, "feed(" + k + ", 50)", state, x -> x.feed(other, 50));
        }
        taken(office, "feed(6, 50)", state, x -> x.feed(6, 50), 17);
        taken(office, "feed(7, 50)", state, x -> x.feed(7, 50), 17);
        WatchBill x = crewOf(25, COOK);
        x.demote(0);
        is(office, "feed(0, 50) of a COOK that is a HAND now", x.feed(0, 50), REFUSED);
    }

    /** An office goes with the rank that the member has now. */
    private static void officeChanges(String sentence, int below, int holder, Call call, long want) {
        WatchBill x = crewOf(25, below);
        is(sentence, "the call before the member is promoted", call.on(x), REFUSED);
        is(sentence, "promote(0)", x.promote(0), holder);
        is(sentence, "the call behind promote(0)", call.on(x), want);
        x.demote(0);
        is(sentence, "the call behind demote(0)", call.on(x), REFUSED);
    }

    private static long does(WatchBill x, int k, int d, int n) {
        return d == TOIL ? x.toil(k, n) : d == PAY ? x.pay(k, n) : d == CLIMB ? x.climb(k, n) : x.heed(k, n);
    }

    private static void watch() {
        Supplier<WatchBill> state = CallsEdgesTest::busy;
        String duty = "Promise 12: REFUSED: no such DUTY";
        int[] none = {-1, 4, LEAST, MOST};
        for (int d : none) refused(duty, "watch(" + d + ", 5)", state, x -> x.watch(d, 5));
        String bound = "Promise 12: REFUSED: n beyond its BOUND";
        for (int duties = TOIL; duties <= HEED; duties++) {
            int d = duties;
            for (int n : beyond(BOUNDS[d])) {
                refused(bound, "watch(" + d + ", " + n + ")", state, x -> x.watch(d, n));
                is(bound, "watch(" + d + ", " + n + ") without members", new WatchBill().watch(d, n), REFUSED);
            }
            int[] edges = {0, BOUNDS[d]};
            for (int n : edges) {
                WatchBill single = busyWith(12);
                long want = 0;
                for (int k = 0; k < 12; k++) want += does(single, k, d, n);
                taken(bound, "watch(" + d + ", " + n + ")", () -> busyWith(12), x -> x.watch(d, n), want);
            }
        }
    }

    private static void watchOfPay() {
        String sentence = "Promise 12: PAY comes into no PURSE";
        WatchBill before = busyWith(12);
        WatchBill x = busyWith(12);
        x.watch(PAY, 1000);
        for (int k = 0; k < 12; k++) is(sentence, "told(" + k + ", PURSE)", x.told(k, PURSE), before.told(k, PURSE));
    }

    private static void line() {
        Supplier<WatchBill> state = CallsEdgesTest::busy;
        String number = "Promise 13: REFUSED: no such LINE";
        for (int i : beyond(7)) {
            refused(number, "line(" + i + ", 0, 50, 0, 7)", state, x -> x.line(i, TOIL, 50, 0, 7));
            refused(number, "line(" + i + ", -1, 0, 0, 0)", state, x -> x.line(i, -1, 0, 0, 0));
        }
        String duty = "Promise 13: REFUSED: else a number that is not so (the DUTY)";
        int[] none = {-2, 4, LEAST, MOST};
        String bound = "Promise 13: REFUSED: else a number that is not so (n)";
        String ranks = "Promise 13: RANKS low .. high (0 .. 7, low not above high)";
        int[] ends = {0, 7};
        for (int i : ends) {
            taken(number, "line(" + i + ", 0, 50, 0, 7)", state, x -> x.line(i, TOIL, 50, 0, 7), 1);
            for (int d : none) refused(duty, "line(" + i + ", " + d + ", 5, 0, 7)", state, x -> x.line(i, d, 5, 0, 7));
            for (int d = TOIL; d <= HEED; d++) lineAtBound(bound, state, i, d);
            lineForRanks(ranks, state, i);
        }
    }

    private static void lineAtBound(String sentence, Supplier<WatchBill> state, int i, int d) {
        for (int n : beyond(BOUNDS[d])) {
            refused(sentence, "line(" + i + ", " + d + ", " + n + ", 0, 7)", state, x -> x.line(i, d, n, 0, 7));
        }
        int[] edges = {0, BOUNDS[d]};
        for (int n : edges) {
            taken(sentence, "line(" + i + ", " + d + ", " + n + ", 0, 7)", state, x -> x.line(i, d, n, 0, 7), 1);
            WatchBill planned = crewOf(25, HAND);
            planned.line(i, d, n, HAND, HAND);
            is(sentence, "sail(1) of DUTY " + d + " with " + n, planned.sail(1), does(crewOf(25, HAND), 0, d, n));
        }
    }

    private static void lineForRanks(String sentence, Supplier<WatchBill> state, int i) {
        int[][] wrong = {{-1, 7}, {0, 8}, {-1, -1}, {8, 8}, {-1, 8}, {1, 0}, {7, 6}, {7, 0}, {LEAST, MOST}, {MOST, LEAST},
            {0, MOST}, {LEAST, 7}};
        for (int[] pair : wrong) {
            String text = "line(" + i + ", 0, 50, " + pair[0] + ", " + pair[1] + ")";
            refused(sentence, text, state, x -> x.line(i, TOIL, 50, pair[0], pair[1]));
        }
        int[][] right = {{0, 7}, {0, 0}, {7, 7}, {3, 3}, {6, 7}, {0, 1}};
        for (int[] pair : right) {
            String text = "line(" + i + ", 0, 50, " + pair[0] + ", " + pair[1] + ")";
            taken(sentence, text, state, x -> x.line(i, TOIL, 50, pair[0], pair[1]), 1);
        }
    }

    private static void lineThatIsEmptied() {
        String sentence = "Promise 13: d = -1: it is empty (the rest is not looked at)";
        int[] odd = {0, -1, 8, LEAST, MOST};
        for (int i = 0; i < 8; i++) {
            int at = i;
            for (int n : odd) {
                taken(sentence, "line(" + i + ", -1, " + n + ", .. )", CallsEdgesTest::busy, x -> x.line(at, -1, n, n, n), 1);
            }
        }
        taken(sentence, "line(0, -1, 5, 7, 0)", CallsEdgesTest::busy, x -> x.line(0, -1, 5, 7, 0), 1);
        WatchBill x = crewOf(0, HAND);
        is(sentence, "line(3, -1, 0, 0, 0) of an empty line", x.line(3, -1, 0, 0, 0), 1);
        x.line(3, HEED, 1, HAND, HAND);
        x.line(3, -1, 2, HAND, HAND);
        is(sentence, "sail(1) of what is emptied", x.sail(1), 0);
        x.line(3, HEED, 3, HAND, HAND);
        is(sentence, "sail(1) of what is filled again", x.sail(1), 93);
    }

    private static void sail() {
        String sentence = "Promise 14: The PLAN, t times (0 .. 20); REFUSED: another t";
        Supplier<WatchBill> state = CallsEdgesTest::busy;
        for (int t : beyond(20)) {
            refused(sentence, "sail(" + t + ")", state, x -> x.sail(t));
            is(sentence, "sail(" + t + ") of nobody", new WatchBill().sail(t), REFUSED);
        }
        int[] times = {0, 1, 2, 20};
        for (int t : times) {
            WatchBill single = busy();
            long want = 0;
            for (int i = 0; i < t; i++) want += single.sail(1);
            taken(sentence, "sail(" + t + ")", state, x -> x.sail(t), want);
        }
        is("Promise 14: the sum of what they answer", "sail(1)", busy().sail(1), voyageBySingleCalls(busy()));
        String order = "Promise 14: for each LINE that is not empty, in order, each MEMBER, the least first";
        WatchBill x = crewOf(0, COOK, SAILOR, MATE, HAND);
        x.line(7, TOIL, 1, HAND, SURGEON);
        x.line(2, CLIMB, 1, HAND, SURGEON);
        x.sail(2);
        notesAre(order, x, 82, 12, 42, 12, 82, 60, 80, 80, 40, 20, 80, 20, 80, 80,
            82, 12, 42, 12, 82, 60, 80, 80, 40, 20, 80, 20, 80, 80);
    }

    /** What the plan of the busy bill is, done once. */
    private static long voyageBySingleCalls(WatchBill x) {
        long sum = 0;
        for (int i = 0; i < 8; i++) {
            for (int k = 0; k < 8; k++) {
                if (k >= i / 3 && k <= 7 - i / 3) sum += does(x, k, i % 4, 5 + i);
            }
        }
        return sum;
    }

    private static void sailForRanks() {
        String sentence = "Promise 14: each MEMBER whose RANK is from low to high";
        for (int low = 0; low < 8; low++) {
            for (int high = low; high < 8; high++) {
                WatchBill x = crewOf(0, RANKS);
                x.line(7, PAY, 10, low, high);
                x.sail(1);
                for (int k : RANKS) {
                    boolean isPaid = x.told(k, PURSE) > 0;
                    is(sentence, "whether rank " + k + " is of " + low + " .. " + high, isPaid ? 1 : 0, k >= low && k <= high ? 1 : 0);
                }
            }
        }
        // By the rank that a member has when the ship sails.
        WatchBill x = crewOf(0, SAILOR);
        x.line(0, HEED, 1, TOPMAN, TOPMAN);
        is(sentence, "sail(1) for a SAILOR", x.sail(1), 0);
        x.promote(0);
        is(sentence, "sail(1) once it is a TOPMAN", x.sail(1), 1);
        x.promote(0);
        is(sentence, "sail(1) once it is a BOSUN", x.sail(1), 0);
    }

    private static void sailOfPay() {
        String sentence = "Promise 14: PAY comes into its PURSE";
        for (int d = TOIL; d <= HEED; d++) {
            WatchBill x = crewOf(0, HAND, SAILOR);
            x.line(0, d, 10, HAND, HAND);
            x.sail(20);
            is(sentence, "told(0, PURSE) of DUTY " + d, x.told(0, PURSE), d == PAY ? 1000 : 0);
            is(sentence, "told(1, PURSE) of DUTY " + d, x.told(1, PURSE), 0);
        }
        // What a BOSUN's HAND adds to its PAY is the BOSUN's alone.
        WatchBill y = crewOf(0, HAND, BOSUN);
        y.line(0, PAY, 10, BOSUN, BOSUN);
        is(sentence, "sail(1)", y.sail(1), 80);
        is(sentence, "told(0, PURSE)", y.told(0, PURSE), 0);
        is(sentence, "told(1, PURSE)", y.told(1, PURSE), 80);
    }

    private static void rest() {
        String sentence = "Promise 15: All MEMBERS TIRE by -n (0 .. 1000); REFUSED: another n";
        Supplier<WatchBill> state = CallsEdgesTest::busy;
        for (int n : beyond(1000)) {
            refused(sentence, "rest(" + n + ")", state, x -> x.rest(n));
            is(sentence, "rest(" + n + ") of nobody", new WatchBill().rest(n), REFUSED);
        }
        taken(sentence, "rest(1)", state, x -> x.rest(1), 8);
        taken(sentence, "rest(1000)", state, x -> x.rest(1000), 8);
        WatchBill still = busy();
        String before = stateOf(still);
        is(sentence, "rest(0)", still.rest(0), 8);
        if (!before.equals(stateOf(still))) fail(sentence, "rest(0) changed something");
        WatchBill tired = crewOf(0, HAND);
        makeWeary(tired, 0, 1000);
        tired.rest(1000);
        is(sentence, "told(0, WEARY) of 1000, rested by 1000", tired.told(0, WEARY), 0);
        String count = "Promise 15: how many MEMBERS there are";
        is(count, "rest(0) of none", new WatchBill().rest(0), 0);
        is(count, "rest(0) of one", tired.rest(0), 1);
        WatchBill full = busyWith(12);
        full.watch(CLIMB, 10);
        is(count, "rest(1000) of twelve", full.rest(1000), 12);
        for (int k = 0; k < 12; k++) is(sentence, "told(" + k + ", WEARY)", full.told(k, WEARY), 0);
    }

    private static void told() {
        String sentence = "Promise 16: what = 0 .. 6; REFUSED: another what";
        for (int what : beyond(6)) {
            for (int k : RANKS) refused(sentence, "told(" + k + ", " + what + ")", CallsEdgesTest::busy, x -> x.told(k, what));
        }
        WatchBill x = busy();
        long[][] want = {{0, 25, 100, 70, 0, 0, 0}, {1, 25, 100, 77, 0, 1, 0}, {2, 25, 100, 84, 1, 1, 0},
            {3, 25, 100, 13 * 12, 1, 1, 0}, {4, 25, 101, 14 * 12, 1, 1, 0}, {5, 25, 25, 2 * 15 * 12, 1, 1, 0},
            {6, 25, 50, 16 * 7, 0, 1, 1}, {7, 25, 50, 17 * 7, 0, 1, 1}};
        for (int k : RANKS) {
            for (int what = RANK; what <= CARER; what++) {
                is(sentence, "told(" + k + ", " + what + ")", x.told(k, what), want[k][what]);
            }
        }
        notesAre(sentence, x, 42, 12);
    }

    private static void note() {
        String sentence = "Promise 17: NOTE i, if it is kept; REFUSED: it is none such";
        int[] none = {-1, 2, 63, 64, LEAST, MOST};
        for (int i : none) refused(sentence, "note(" + i + ")", CallsEdgesTest::busy, x -> x.note(i));
        is(sentence, "note(0) of two", busy().note(0), 42);
        is(sentence, "note(1) of two", busy().note(1), 12);
        WatchBill x = crewOf(0, HAND, SAILOR);
        for (int i = 0; i < 8; i++) x.line(i, PAY, 1, HAND, SAILOR);
        x.sail(20);
        is(sentence, "note(63) of 320", x.note(63), 1);
        int[] beyond = {-1, 64, 319, 320, LEAST, MOST};
        for (int i : beyond) is(sentence, "note(" + i + ") of 320", x.note(i), REFUSED);
        String count = "Promise 18: How many NOTES there are (also what is not kept)";
        is(count, "notes() of none", new WatchBill().notes(), 0);
        is(count, "notes() of two", busy().notes(), 2);
        is(count, "notes() of 320", x.notes(), 320);
    }
}
