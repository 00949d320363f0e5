/** What the tests share: how an answer is compared, crews to begin with, and all that an object tells of itself. */
class Checks {
    static final long REFUSED = -1000000L;
    static final int HAND = 0, SAILOR = 1, TOPMAN = 2, BOSUN = 3, MATE = 4, MASTER = 5, COOK = 6, SURGEON = 7;
    static final int[] RANKS = {HAND, SAILOR, TOPMAN, BOSUN, MATE, MASTER, COOK, SURGEON};
    static final int TOIL = 0, PAY = 1, CLIMB = 2, HEED = 3;
    static final int[] BOUNDS = {100, 1000, 200, 9999};
    static final int RANK = 0, SKILL = 1, WEARY = 2, PURSE = 3, CLIMBER = 4, PAYEE = 5, CARER = 6;
    static final int LEAST = Integer.MIN_VALUE, MOST = Integer.MAX_VALUE;
    private static int wrong = 0;

    static void is(String sentence, String call, long got, long want) {
        if (got != want) fail(sentence, call + " answered " + got + ", due is " + want);
    }

    static void is(int promise, String call, long got, long want) {
        is("promise " + promise, call, got, want);
    }

    static void fail(String sentence, String what) {
        wrong++;
        System.out.println(sentence + ": " + what);
    }

    /** The last thing that a test does. */
    static void end() {
        System.out.println(wrong == 0 ? "all answers are as due" : wrong + " answers are not as due");
        if (wrong != 0) System.exit(1);
    }

    /** These notes and no more; not for more than are kept. */
    static void notesAre(String sentence, WatchBill x, int... want) {
        is(sentence, "notes()", x.notes(), want.length);
        for (int i = 0; i < want.length; i++) is(sentence, "note(" + i + ")", x.note(i), want[i]);
        is(sentence, "note(" + want.length + ")", x.note(want.length), REFUSED);
    }

    static void notesAre(int promise, WatchBill x, int... want) {
        notesAre("promise " + promise, x, want);
    }

    /** A bill of members with these ranks, all of one skill. */
    static WatchBill crewOf(int skill, int... ranks) {
        WatchBill x = new WatchBill();
        for (int rank : ranks) x.enlist(rank, skill);
        return x;
    }

    /** A bill whose first member has this rank and skill and is so weary. */
    static WatchBill wearyOne(int rank, int skill, int weary) {
        WatchBill x = crewOf(skill, rank);
        makeWeary(x, 0, weary);
        return x;
    }

    /** Makes member k, which is not weary yet, so weary: in a rank that has no way of its own to tire by. */
    static void makeWeary(WatchBill x, int k, int weary) {
        int rank = (int) x.told(k, RANK);
        if (rank == COOK || rank == SURGEON) {
            climbUntilWeary(x, k, rank, weary);
        } else {
            toilUntilWeary(x, k, weary);
        }
        is("Terms", "told(" + k + ", WEARY) once it is made weary", x.told(k, WEARY), weary);
    }

    /** This ends, as the next does, whatever the class answers: a test must tell of a fault, not hang on it. */
    private static void toilUntilWeary(WatchBill x, int k, int weary) {
        int steps = 0;
        while (steps < MASTER && x.told(k, RANK) != HAND) {
            x.demote(k);
            steps++;
        }
        for (int left = weary; left > 0; left -= 100) x.toil(k, Math.min(left, 100));
        for (int i = 0; i < steps; i++) x.promote(k);
    }

    private static void climbUntilWeary(WatchBill x, int k, int rank, int weary) {
        if (rank == SURGEON) x.demote(k);
        int most = Math.max(10, 10 + (int) x.told(k, SKILL));
        for (int left = weary; left > 0; left -= most) x.climb(k, Math.min(left, most));
        if (rank == SURGEON) x.promote(k);
    }

    /** All that can be asked without a change; takes some 150 of the 512 calls that an object has. */
    static String stateOf(WatchBill x) {
        StringBuilder text = new StringBuilder();
        for (int k = 0; k < 12; k++) {
            for (int what = RANK; what <= CARER; what++) text.append(x.told(k, what)).append(' ');
        }
        text.append("notes ").append(x.notes());
        for (int i = 0; i < 64; i++) text.append(' ').append(x.note(i));
        return text.toString();
    }
}
