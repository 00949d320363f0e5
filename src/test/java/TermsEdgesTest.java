/**
 * The boundary cases that the document's "Terms" name, a test for each sentence: the bounds of a MEMBER, the limits
 * inside the WAYS, the OFFICES, the PLAN and the NOTES. What the single calls refuse is in CallsEdgesTest.
 */
public final class TermsEdgesTest extends Checks {
    public static void main(String[] args) {
        membersAtMost();
        skillFromLeastToMost();
        zeroAtFirst();
        purseIsLong();
        wearyAtMost();
        wearyAtLeast();
        toilOfSoul();
        toilOfTopman();
        toilOfMate();
        toilOfMaster();
        toilOfCook();
        payOfHand();
        payOfBosun();
        payOfMaster();
        payOfSurgeon();
        climbOfSoul();
        climbOfSailor();
        climbOfMate();
        climbOfSurgeon();
        heedOfSoul();
        heedOfTopman();
        heedOfBosun();
        heedOfMaster();
        heedOfCook();
        raceOfClimbers();
        raceOfMaster();
        dueAtLeast();
        mealIsHundredth();
        mealForOthers();
        linesOfThePlan();
        notesKept();
        notesCounted();
        notesNoneBefore();
        notesOfTheLatestCall();
        notesOfCallsThatDoNothing();
        lastOfTheCalls();
        end();
    }

    /** What the first member answers, how weary it is then, and what was noted. */
    private static void toilIs(String sentence, WatchBill x, int n, long want, int weary, int... notes) {
        is(sentence, "toil(0, " + n + ")", x.toil(0, n), want);
        is(sentence, "told(0, WEARY) behind toil(0, " + n + ")", x.told(0, WEARY), weary);
        notesAre(sentence, x, notes);
    }

    private static void climbIs(String sentence, WatchBill x, int n, long want, int weary, int... notes) {
        is(sentence, "climb(0, " + n + ")", x.climb(0, n), want);
        is(sentence, "told(0, WEARY) behind climb(0, " + n + ")", x.told(0, WEARY), weary);
        notesAre(sentence, x, notes);
    }

    private static void payIs(String sentence, WatchBill x, int n, long want, int... notes) {
        is(sentence, "pay(0, " + n + ")", x.pay(0, n), want);
        notesAre(sentence, x, notes);
    }

    private static void heedIs(String sentence, WatchBill x, int k, int n, long want, int... notes) {
        is(sentence, "heed(" + k + ", " + n + ")", x.heed(k, n), want);
        notesAre(sentence, x, notes);
    }

    private static int[] twelveOf(int rank) {
        int[] ranks = new int[12];
        java.util.Arrays.fill(ranks, rank);
        return ranks;
    }

    /** One of the first rank, and eleven of the other. */
    private static int[] oneAndEleven(int first, int others) {
        int[] ranks = twelveOf(others);
        ranks[0] = first;
        return ranks;
    }

    private static void membersAtMost() {
        String sentence = "MEMBERS 0 .. 11 at most";
        WatchBill x = new WatchBill();
        is(sentence, "told(0, RANK) of none", x.told(0, RANK), REFUSED);
        for (int k = 0; k < 12; k++) {
            is(sentence, "told of the member to come", x.told(k, RANK), REFUSED);
            is(sentence, "enlist of member " + k, x.enlist(HAND, 10), k);
            is(sentence, "told(" + k + ", RANK)", x.told(k, RANK), HAND);
        }
        is(sentence, "enlist of a 13th", x.enlist(HAND, 10), REFUSED);
        is(sentence, "told(12, RANK)", x.told(12, RANK), REFUSED);
        is(sentence, "heed(11, 0)", x.heed(11, 0), 11);
        is(sentence, "heed(12, 0)", x.heed(12, 0), REFUSED);
        is(sentence, "watch(HEED, 0) of all twelve", x.watch(HEED, 0), 66);
    }

    private static void skillFromLeastToMost() {
        String sentence = "SKILL 0 .. 99";
        WatchBill none = crewOf(0, HAND);
        WatchBill most = crewOf(99, HAND);
        is(sentence, "told of 0", none.told(0, SKILL), 0);
        is(sentence, "told of 99", most.told(0, SKILL), 99);
        is(sentence, "toil(0, 100) with 0", none.toil(0, 100), 1000);
        is(sentence, "toil(0, 100) with 99", most.toil(0, 100), 10900);
        is(sentence, "enlist(0, -1)", none.enlist(HAND, -1), REFUSED);
        is(sentence, "enlist(0, 100)", none.enlist(HAND, 100), REFUSED);
    }

    private static void zeroAtFirst() {
        String sentence = "WEARY (0 at first), a PURSE (0 at first)";
        WatchBill x = crewOf(50, RANKS);
        x.watch(TOIL, 100);
        x.pay(0, 1000);
        is(sentence, "enlist behind others' work", x.enlist(HAND, 50), 8);
        is(sentence, "told(8, WEARY)", x.told(8, WEARY), 0);
        is(sentence, "told(8, PURSE)", x.told(8, PURSE), 0);
    }

    private static void purseIsLong() {
        String sentence = "a PURSE, a long";
        WatchBill x = crewOf(99, oneAndEleven(MASTER, HAND));
        // Twice 14000 + 2000 + 11 * 1000, which is 8640000 for a voyage of 8 lines and 20 times.
        for (int i = 0; i < 8; i++) x.line(i, PAY, 1000, MASTER, MASTER);
        long want = 0;
        for (int i = 0; i < 300; i++) {
            is(sentence, "sail(20)", x.sail(20), 8640000);
            want += 8640000;
        }
        is(sentence, "told(0, PURSE) beyond 2147483647", x.told(0, PURSE), want);
    }

    private static void wearyAtMost() {
        String sentence = "WEARY becomes n more, at most 1000";
        toilIs(sentence, wearyOne(HAND, 0, 998), 1, 0, 999, 80);
        toilIs(sentence, wearyOne(HAND, 0, 999), 1, 0, 1000, 80);
        toilIs(sentence, wearyOne(HAND, 0, 999), 2, 0, 1000, 80);
        toilIs(sentence, wearyOne(HAND, 0, 1000), 1, 0, 1000, 80);
        toilIs(sentence, wearyOne(HAND, 0, 1000), 100, 0, 1000, 80);
        climbIs(sentence, wearyOne(HAND, 99, 900), 100, 200, 1000, 82);
        climbIs(sentence, wearyOne(HAND, 99, 901), 100, 200, 1000, 82);
        climbIs(sentence, wearyOne(HAND, 99, 1000), 109, 218, 1000, 82);
        climbIs(sentence, wearyOne(SAILOR, 0, 985), 30, 90, 1000, 12);
        climbIs(sentence, wearyOne(SAILOR, 0, 986), 30, 90, 1000, 12);
        // A COOK is at 1000, and no higher, before it rests by half.
        toilIs(sentence, wearyOne(COOK, 0, 899), 100, 101, 949, 60, 80);
        toilIs(sentence, wearyOne(COOK, 0, 900), 100, 100, 950, 60, 80);
        toilIs(sentence, wearyOne(COOK, 0, 901), 100, 99, 950, 60, 80);
        toilIs(sentence, wearyOne(SURGEON, 0, 1000), 100, 0, 950, 60, 80);
    }

    private static void wearyAtLeast() {
        String sentence = "WEARY becomes n more, at least 0";
        int[] rests = {0, 4, 5, 6, 1000};
        int[] left = {5, 1, 0, 0, 0};
        for (int i = 0; i < rests.length; i++) {
            WatchBill x = wearyOne(HAND, 0, 5);
            is(sentence, "rest(" + rests[i] + ")", x.rest(rests[i]), 1);
            is(sentence, "told(0, WEARY) of 5, rested by " + rests[i], x.told(0, WEARY), left[i]);
            is(sentence, "toil behind it", x.toil(0, 10), 100 - left[i]);
        }
        WatchBill tired = wearyOne(HAND, 0, 1000);
        tired.rest(999);
        is(sentence, "told(0, WEARY) of 1000, rested by 999", tired.told(0, WEARY), 1);
        tired.rest(1);
        is(sentence, "told(0, WEARY) of 1, rested by 1", tired.told(0, WEARY), 0);
        tired.rest(1);
        is(sentence, "told(0, WEARY) of 0, rested by 1", tired.told(0, WEARY), 0);
    }

    private static void toilOfSoul() {
        String sentence = "TOIL of SOUL: less WEARY as it is before, at least 0";
        toilIs(sentence, wearyOne(HAND, 0, 0), 10, 100, 10, 80);
        toilIs(sentence, wearyOne(HAND, 0, 99), 10, 1, 109, 80);
        toilIs(sentence, wearyOne(HAND, 0, 100), 10, 0, 110, 80);
        toilIs(sentence, wearyOne(HAND, 0, 101), 10, 0, 111, 80);
        toilIs(sentence, wearyOne(HAND, 0, 0), 0, 0, 0, 80);
        toilIs(sentence, wearyOne(HAND, 0, 1), 0, 0, 1, 80);
        toilIs(sentence, wearyOne(HAND, 99, 0), 100, 10900, 100, 80);
        toilIs(sentence, wearyOne(SAILOR, 0, 100), 10, 0, 110, 80);
    }

    private static void toilOfTopman() {
        String sentence = "TOIL of TOPMAN: if WEARY is above 500, 0 and nothing else";
        toilIs(sentence, wearyOne(TOPMAN, 20, 499), 20, 161, 519, 20, 80);
        toilIs(sentence, wearyOne(TOPMAN, 20, 500), 20, 160, 520, 20, 80);
        toilIs(sentence, wearyOne(TOPMAN, 20, 501), 20, 0, 501, 20);
        toilIs(sentence, wearyOne(TOPMAN, 20, 1000), 100, 0, 1000, 20);
        // The ELDER's is at least 0 before 3 times n comes to it.
        toilIs(sentence, wearyOne(TOPMAN, 20, 500), 1, 3, 501, 20, 80);
        toilIs(sentence, wearyOne(TOPMAN, 20, 500), 0, 0, 500, 20, 80);
        toilIs(sentence, wearyOne(BOSUN, 20, 500), 20, 160, 520, 20, 80);
        toilIs(sentence, wearyOne(BOSUN, 20, 501), 20, 0, 501, 20);
        // No TOPMAN is above these, so they are never too weary.
        toilIs(sentence, wearyOne(SAILOR, 20, 501), 20, 99, 521, 80);
        toilIs(sentence, wearyOne(COOK, 20, 501), 20, 99, 511, 60, 80);
    }

    private static void toilOfMate() {
        String sentence = "TOIL of MATE: ELDER of n / 2, then ELDER of n - n / 2";
        toilIs(sentence, crewOf(20, MATE), 0, 0, 0, 40, 20, 80, 20, 80);
        toilIs(sentence, crewOf(20, MATE), 1, 33, 1, 40, 20, 80, 20, 80);
        toilIs(sentence, crewOf(20, MATE), 2, 65, 2, 40, 20, 80, 20, 80);
        toilIs(sentence, crewOf(20, MATE), 3, 98, 3, 40, 20, 80, 20, 80);
        toilIs(sentence, crewOf(20, MATE), 100, 3250, 100, 40, 20, 80, 20, 80);
        // The first half may leave it too weary for the second.
        toilIs(sentence, wearyOne(MATE, 20, 499), 2, 6, 501, 40, 20, 80, 20, 80);
        toilIs(sentence, wearyOne(MATE, 20, 500), 2, 3, 501, 40, 20, 80, 20);
        toilIs(sentence, wearyOne(MATE, 20, 500), 1, 3, 501, 40, 20, 80, 20, 80);
        toilIs(sentence, wearyOne(MATE, 20, 501), 2, 0, 501, 40, 20, 20);
    }

    private static void toilOfMaster() {
        String sentence = "TOIL of MASTER: if n is at most 40, ELDER of n; else 4 times ELDER of n / 4";
        int[] numbers = {0, 1, 39, 40, 41, 43, 44, 100};
        long[] want = {0, 33, 1268, 1300, 1300, 1300, 1432, 3252};
        int[] weary = {0, 1, 39, 40, 10, 10, 11, 25};
        for (int i = 0; i < numbers.length; i++) {
            toilIs(sentence, crewOf(20, MASTER), numbers[i], want[i], weary[i], 50, 40, 20, 80, 20, 80);
        }
        toilIs(sentence, wearyOne(MASTER, 20, 501), 40, 0, 501, 50, 40, 20, 20);
        toilIs(sentence, wearyOne(MASTER, 20, 501), 41, 0, 501, 50, 40, 20, 20);
        // Halves of 5 and 5: the first brings it from 496 to 501.
        toilIs(sentence, wearyOne(MASTER, 99, 496), 41, 4 * (545 - 496 + 15), 501, 50, 40, 20, 80, 20);
        toilIs(sentence, wearyOne(MASTER, 99, 495), 41, 4 * (545 - 495 + 15 + 545 - 500 + 15), 505, 50, 40, 20, 80, 20, 80);
    }

    private static void toilOfCook() {
        String sentence = "TOIL of COOK: ELDER of n; then it TIRES by -(n / 2)";
        int[] numbers = {0, 1, 2, 3, 99, 100};
        int[] weary = {0, 1, 1, 2, 50, 50};
        for (int i = 0; i < numbers.length; i++) {
            toilIs(sentence, crewOf(0, COOK), numbers[i], 10 * numbers[i], weary[i], 60, 80);
            toilIs(sentence, crewOf(0, SURGEON), numbers[i], 10 * numbers[i], weary[i], 60, 80);
        }
    }

    private static void payOfHand() {
        String sentence = "PAY of HAND: n times (5 + SKILL / 10)";
        int[] skills = {0, 9, 10, 19, 20, 89, 90, 99};
        int[] each = {5, 5, 6, 6, 7, 13, 14, 14};
        for (int i = 0; i < skills.length; i++) {
            payIs(sentence, crewOf(skills[i], HAND), 0, 0, 1);
            payIs(sentence, crewOf(skills[i], HAND), 1, each[i], 1);
            payIs(sentence, crewOf(skills[i], HAND), 1000, 1000 * each[i], 1);
            payIs(sentence, crewOf(skills[i], COOK), 1000, 1000 * each[i], 1);
        }
    }

    private static void payOfBosun() {
        String sentence = "PAY of BOSUN: n more for each MEMBER of RANK 0 .. 2";
        payIs(sentence, crewOf(0, BOSUN), 10, 70, 31, 1);
        payIs(sentence, crewOf(0, MATE), 10, 70, 31, 1);
        long[] beside = {80, 80, 80, 70, 70, 70, 70, 70};
        for (int rank : RANKS) payIs(sentence, crewOf(0, BOSUN, rank), 10, beside[rank], 31, 1);
        payIs(sentence, crewOf(0, oneAndEleven(BOSUN, TOPMAN)), 1000, 7000 + 11000, 31, 1);
        payIs(sentence, crewOf(0, oneAndEleven(BOSUN, HAND)), 0, 0, 31, 1);
        // Those before it count like those behind it, and by the rank that they have now.
        WatchBill x = crewOf(0, HAND, TOPMAN, BOSUN);
        is(sentence, "pay(2, 10)", x.pay(2, 10), 90);
        x.promote(1);
        is(sentence, "pay(2, 10) once the TOPMAN is a BOSUN", x.pay(2, 10), 80);
        x.demote(1);
        is(sentence, "pay(2, 10) once it is a TOPMAN again", x.pay(2, 10), 90);
    }

    private static void payOfMaster() {
        String sentence = "PAY of MASTER: ELDER of n; twice that, if WEARY is below 300";
        payIs(sentence, wearyOne(MASTER, 0, 0), 10, 140, 51, 31, 1);
        payIs(sentence, wearyOne(MASTER, 0, 299), 10, 140, 51, 31, 1);
        payIs(sentence, wearyOne(MASTER, 0, 300), 10, 70, 51, 31, 1);
        payIs(sentence, wearyOne(MASTER, 0, 301), 10, 70, 51, 31, 1);
        payIs(sentence, wearyOne(MASTER, 0, 1000), 10, 70, 51, 31, 1);
        payIs(sentence, wearyOne(MATE, 0, 0), 10, 70, 31, 1);
    }

    private static void payOfSurgeon() {
        String sentence = "PAY of SURGEON: 7 more for each MEMBER (itself, too) whose WEARY is above 500";
        payIs(sentence, wearyOne(SURGEON, 40, 0), 10, 90, 71, 1);
        payIs(sentence, wearyOne(SURGEON, 40, 500), 10, 90, 71, 1);
        payIs(sentence, wearyOne(SURGEON, 40, 501), 10, 97, 71, 1);
        payIs(sentence, wearyOne(SURGEON, 40, 1000), 0, 7, 71, 1);
        payIs(sentence, wearyOne(COOK, 40, 501), 10, 90, 1);
        for (int rank : RANKS) {
            WatchBill x = crewOf(40, SURGEON, rank);
            makeWeary(x, 1, 500);
            payIs(sentence, x, 10, 90, 71, 1);
            x.rest(1000);
            makeWeary(x, 1, 501);
            payIs(sentence, x, 10, 97, 71, 1);
        }
        WatchBill full = crewOf(40, oneAndEleven(SURGEON, HAND));
        for (int k = 0; k < 12; k++) makeWeary(full, k, 501);
        payIs(sentence, full, 10, 90 + 12 * 7, 71, 1);
        full.rest(1);
        payIs(sentence, full, 10, 90, 71, 1);
    }

    private static void climbOfSoul() {
        String sentence = "CLIMB of SOUL: if n is above 10 + SKILL, -1 and nothing else";
        climbIs(sentence, wearyOne(HAND, 0, 3), 0, 0, 3, 82);
        climbIs(sentence, wearyOne(HAND, 0, 3), 9, 18, 12, 82);
        climbIs(sentence, wearyOne(HAND, 0, 3), 10, 20, 13, 82);
        climbIs(sentence, wearyOne(HAND, 0, 3), 11, -1, 3, 82);
        climbIs(sentence, wearyOne(COOK, 0, 3), 10, 20, 13, 82);
        climbIs(sentence, wearyOne(COOK, 0, 3), 11, -1, 3, 82);
        climbIs(sentence, wearyOne(HAND, 99, 3), 109, 218, 112, 82);
        climbIs(sentence, wearyOne(HAND, 99, 3), 110, -1, 3, 82);
        climbIs(sentence, wearyOne(HAND, 99, 3), 200, -1, 3, 82);
    }

    private static void climbOfSailor() {
        String sentence = "CLIMB of SAILOR: if n is at most 30, 3 times n, and it TIRES by n / 2; else ELDER of n";
        climbIs(sentence, crewOf(0, SAILOR), 0, 0, 0, 12);
        climbIs(sentence, crewOf(0, SAILOR), 1, 3, 0, 12);
        climbIs(sentence, crewOf(0, SAILOR), 29, 87, 14, 12);
        climbIs(sentence, crewOf(0, SAILOR), 30, 90, 15, 12);
        climbIs(sentence, crewOf(20, SAILOR), 31, -1, 0, 12, 82);
        climbIs(sentence, crewOf(21, SAILOR), 31, 62, 31, 12, 82);
        climbIs(sentence, crewOf(99, TOPMAN), 109, 218, 109, 12, 82);
        climbIs(sentence, crewOf(99, BOSUN), 110, -1, 0, 12, 82);
    }

    private static void climbOfMate() {
        String sentence = "CLIMB of MATE: ELDER of n; one more, if that is not -1";
        for (int rank = MATE; rank <= MASTER; rank++) {
            climbIs(sentence, crewOf(21, rank), 0, 1, 0, 42, 12);
            climbIs(sentence, crewOf(21, rank), 30, 91, 15, 42, 12);
            climbIs(sentence, crewOf(21, rank), 31, 63, 31, 42, 12, 82);
            climbIs(sentence, crewOf(20, rank), 31, -1, 0, 42, 12, 82);
        }
    }

    private static void climbOfSurgeon() {
        String sentence = "CLIMB of SURGEON: ELDER of n / 2";
        climbIs(sentence, crewOf(0, SURGEON), 0, 0, 0, 72, 82);
        climbIs(sentence, crewOf(0, SURGEON), 1, 0, 0, 72, 82);
        climbIs(sentence, crewOf(0, SURGEON), 2, 2, 1, 72, 82);
        climbIs(sentence, crewOf(0, SURGEON), 21, 20, 10, 72, 82);
        climbIs(sentence, crewOf(0, SURGEON), 22, -1, 0, 72, 82);
        climbIs(sentence, crewOf(90, SURGEON), 200, 200, 100, 72, 82);
        climbIs(sentence, crewOf(89, SURGEON), 199, 198, 99, 72, 82);
        climbIs(sentence, crewOf(89, SURGEON), 200, -1, 0, 72, 82);
    }

    private static void heedOfSoul() {
        String sentence = "HEED of SOUL: the rest of 31 times n plus the MEMBER's number by 1000";
        WatchBill x = crewOf(0, twelveOf(HAND));
        heedIs(sentence, x, 0, 0, 0, 83);
        heedIs(sentence, x, 11, 0, 11, 83);
        heedIs(sentence, x, 0, 1, 31, 83);
        heedIs(sentence, x, 7, 32, 999, 83);
        heedIs(sentence, x, 8, 32, 0, 83);
        heedIs(sentence, x, 9, 32, 1, 83);
        heedIs(sentence, x, 0, 1000, 0, 83);
        heedIs(sentence, x, 11, 9999, 980, 83);
    }

    private static void heedOfTopman() {
        String sentence = "HEED of TOPMAN: if n is even, ELDER of n, and 1000 more; else n";
        WatchBill x = crewOf(0, twelveOf(TOPMAN));
        heedIs(sentence, x, 11, 0, 1011, 23, 83);
        heedIs(sentence, x, 11, 1, 1, 23);
        heedIs(sentence, x, 11, 2, 1073, 23, 83);
        heedIs(sentence, x, 7, 32, 1999, 23, 83);
        heedIs(sentence, x, 8, 32, 1000, 23, 83);
        heedIs(sentence, x, 11, 9998, 1949, 23, 83);
        heedIs(sentence, x, 11, 9999, 9999, 23);
    }

    private static void heedOfBosun() {
        String sentence = "HEED of BOSUN: then each MEMBER of RANK 0 .. 2, the least first, HEEDS n, too";
        heedIs(sentence, crewOf(0, BOSUN), 0, 2, 1062, 33, 23, 83);
        heedIs(sentence, crewOf(0, BOSUN), 0, 1, 1, 33, 23);
        heedIs(sentence, crewOf(0, BOSUN, BOSUN, MATE, MASTER, COOK, SURGEON), 0, 2, 1062, 33, 23, 83);
        heedIs(sentence, crewOf(0, BOSUN, HAND), 0, 2, 1062 + 63, 33, 23, 83, 83);
        heedIs(sentence, crewOf(0, BOSUN, SAILOR), 0, 2, 1062 + 63, 33, 23, 83, 83);
        heedIs(sentence, crewOf(0, BOSUN, TOPMAN), 0, 2, 1062 + 1063, 33, 23, 83, 23, 83);
        heedIs(sentence, crewOf(0, HAND, MATE, TOPMAN, SAILOR), 1, 1, 1 + 31 + 1 + 34, 33, 23, 83, 23, 83);
        heedIs(sentence, crewOf(0, TOPMAN, MATE, HAND, SAILOR), 1, 1, 1 + 1 + 33 + 34, 33, 23, 23, 83, 83);
        heedIs(sentence, crewOf(0, oneAndEleven(BOSUN, HAND)), 0, 2, 1062 + 11 * 62 + 66,
            33, 23, 83, 83, 83, 83, 83, 83, 83, 83, 83, 83, 83, 83);
        heedIs(sentence, crewOf(0, oneAndEleven(BOSUN, TOPMAN)), 0, 9999, 12 * 9999,
            33, 23, 23, 23, 23, 23, 23, 23, 23, 23, 23, 23, 23);
    }

    private static void heedOfMaster() {
        String sentence = "HEED of MASTER: if WEARY is 700 or more, -5 and nothing else; else ELDER of n + 1";
        heedIs(sentence, wearyOne(MASTER, 0, 699), 0, 1, 1062, 53, 33, 23, 83);
        heedIs(sentence, wearyOne(MASTER, 0, 700), 0, 1, -5, 53);
        heedIs(sentence, wearyOne(MASTER, 0, 701), 0, 1, -5, 53);
        heedIs(sentence, wearyOne(MASTER, 0, 1000), 0, 9999, -5, 53);
        heedIs(sentence, wearyOne(MATE, 0, 700), 0, 2, 1062, 33, 23, 83);
        heedIs(sentence, crewOf(0, MASTER), 0, 0, 1, 53, 33, 23);
        // 10000 is beyond the BOUND of what is asked, not of what an ELDER or a HAND does for a MASTER.
        heedIs(sentence, crewOf(0, MASTER), 0, 9999, 1000, 53, 33, 23, 83);
        heedIs(sentence, crewOf(0, MASTER, HAND), 0, 9999, 1001, 53, 33, 23, 83, 83);
        // The too weary MASTER calls nobody.
        WatchBill x = crewOf(0, MASTER, HAND, TOPMAN);
        makeWeary(x, 0, 700);
        heedIs(sentence, x, 0, 1, -5, 53);
    }

    private static void heedOfCook() {
        String sentence = "HEED of COOK: ELDER of n, then 0 less that";
        int[] ranks = {COOK, SURGEON};
        for (int rank : ranks) {
            WatchBill x = crewOf(0, twelveOf(rank));
            heedIs(sentence, x, 0, 0, 0, 63, 83);
            heedIs(sentence, x, 1, 0, -1, 63, 83);
            heedIs(sentence, x, 7, 32, -999, 63, 83);
            heedIs(sentence, x, 8, 32, 0, 63, 83);
        }
    }

    private static void raceIs(String sentence, WatchBill x, int n, int m, long want, int weary, int... notes) {
        is(sentence, "race(0, " + n + ", " + m + ")", x.race(0, n, m), want);
        is(sentence, "told(0, WEARY) behind race(0, " + n + ", " + m + ")", x.told(0, WEARY), weary);
        notesAre(sentence, x, notes);
    }

    private static void raceOfClimbers() {
        String sentence = "a RACE: until it has done so m times, or the answer is -1 (which does not count)";
        raceIs(sentence, crewOf(0, TOPMAN), 30, 0, 0, 0);
        raceIs(sentence, crewOf(0, TOPMAN), 30, 1, 90, 15, 12);
        raceIs(sentence, crewOf(0, TOPMAN), 30, 3, 270, 45, 12, 12, 12);
        raceIs(sentence, crewOf(0, TOPMAN), 30, 4, 360, 60, 12, 12, 12, 12);
        raceIs(sentence, crewOf(0, BOSUN), 30, 20, 1800, 300,
            12, 12, 12, 12, 12, 12, 12, 12, 12, 12, 12, 12, 12, 12, 12, 12, 12, 12, 12, 12);
        raceIs(sentence, crewOf(0, TOPMAN), 31, 1, 0, 0, 12, 82);
        raceIs(sentence, crewOf(0, TOPMAN), 31, 20, 0, 0, 12, 82);
        raceIs(sentence, crewOf(0, MATE), 31, 20, 0, 0, 42, 12, 82);
        raceIs(sentence, crewOf(0, MATE), 0, 4, 4, 0, 42, 12, 42, 12, 42, 12, 42, 12);
        // A race goes on at a WEARY of 1000.
        raceIs(sentence, wearyOne(TOPMAN, 99, 900), 109, 2, 436, 1000, 12, 82, 12, 82);
    }

    private static void raceOfMaster() {
        String sentence = "MASTER's RACE: at most 3 times (fewer, if m is less), and twice the sum";
        raceIs(sentence, crewOf(0, MASTER), 30, 0, 0, 0);
        raceIs(sentence, crewOf(0, MASTER), 30, 1, 182, 15, 42, 12);
        raceIs(sentence, crewOf(0, MASTER), 30, 2, 364, 30, 42, 12, 42, 12);
        raceIs(sentence, crewOf(0, MASTER), 30, 3, 546, 45, 42, 12, 42, 12, 42, 12);
        raceIs(sentence, crewOf(0, MASTER), 30, 4, 546, 45, 42, 12, 42, 12, 42, 12);
        raceIs(sentence, crewOf(0, MASTER), 30, 20, 546, 45, 42, 12, 42, 12, 42, 12);
        raceIs(sentence, crewOf(0, MASTER), 31, 20, 0, 0, 42, 12, 82);
        // A MATE that was a MASTER races like a MATE.
        WatchBill x = crewOf(0, MASTER);
        x.demote(0);
        raceIs(sentence, x, 30, 4, 364, 60, 42, 12, 42, 12, 42, 12, 42, 12);
    }

    private static void dueAtLeast() {
        String sentence = "DUE: the MEMBER's PAY of n, less x, at least 0";
        WatchBill x = crewOf(0, SAILOR);
        int[] less = {0, 49, 50, 51, MOST};
        long[] want = {50, 1, 0, 0, 0};
        for (int i = 0; i < less.length; i++) {
            is(sentence, "due(0, 10, " + less[i] + ")", x.due(0, 10, less[i]), want[i]);
            notesAre(sentence, x, 1);
            is(sentence, "told(0, PURSE)", x.told(0, PURSE), 0);
        }
        is(sentence, "due(0, 0, 0)", x.due(0, 0, 0), 0);
        is(sentence, "due(0, 0, 1)", x.due(0, 0, 1), 0);
        is(sentence, "due(0, 1000, 4999)", x.due(0, 1000, 4999), 1);
    }

    private static void mealIsHundredth() {
        String sentence = "FEED: what it answers divided by 100 is the MEAL";
        int[] numbers = {0, 9, 10, 19, 20, 100};
        int[] meals = {0, 0, 1, 1, 2, 10};
        for (int i = 0; i < numbers.length; i++) {
            is(sentence, "feed(0, " + numbers[i] + ")", crewOf(0, COOK).feed(0, numbers[i]), meals[i]);
            is(sentence, "feed(0, " + numbers[i] + ")", crewOf(0, SURGEON).feed(0, numbers[i]), meals[i]);
        }
        is(sentence, "feed(0, 10) of one who answers 99", wearyOne(COOK, 0, 1).feed(0, 10), 0);
        is(sentence, "feed(0, 20) of one who answers 199", wearyOne(COOK, 0, 1).feed(0, 20), 1);
        is(sentence, "feed(0, 100) of one who answers 0", wearyOne(COOK, 0, 1000).feed(0, 100), 0);
        is(sentence, "feed(0, 100) of one who answers 10900", crewOf(99, SURGEON).feed(0, 100), 109);
    }

    private static void mealForOthers() {
        String sentence = "FEED: each other MEMBER TIRES by -MEAL";
        // A MEAL of 2, for one who is less weary than that, as weary, and more weary.
        WatchBill x = crewOf(0, HAND, SAILOR, COOK, MASTER, SURGEON);
        int[] weary = {1, 2, 0, 3, 1000};
        int[] left = {0, 0, 10, 1, 998};
        for (int k = 0; k < 5; k++) makeWeary(x, k, weary[k]);
        is(sentence, "feed(2, 20)", x.feed(2, 20), 2);
        notesAre(sentence, x, 60, 80);
        for (int k = 0; k < 5; k++) is(sentence, "told(" + k + ", WEARY)", x.told(k, WEARY), left[k]);
        // It alone: nobody is fed, and it is as weary as by its toil.
        WatchBill alone = wearyOne(COOK, 99, 50);
        is(sentence, "feed(0, 100) of one alone", alone.feed(0, 100), 108);
        is(sentence, "told(0, WEARY) of one alone", alone.told(0, WEARY), 100);
        WatchBill full = crewOf(0, oneAndEleven(COOK, HAND));
        full.watch(TOIL, 50);
        full.rest(30);
        is(sentence, "feed(0, 10) for eleven", full.feed(0, 10), 1);
        for (int k = 1; k < 12; k++) is(sentence, "told(" + k + ", WEARY)", full.told(k, WEARY), 19);
    }

    private static void linesOfThePlan() {
        String sentence = "A PLAN: LINES 0 .. 7, each empty at first";
        WatchBill x = crewOf(0, RANKS);
        is(sentence, "sail(20) at first", x.sail(20), 0);
        notesAre(sentence, x);
        for (int i = 0; i < 8; i++) {
            WatchBill one = crewOf(0, HAND);
            is(sentence, "line(" + i + ", ..)", one.line(i, HEED, 1, HAND, HAND), 1);
            is(sentence, "sail(1) of line " + i + " alone", one.sail(1), 31);
            notesAre(sentence, one, 83);
        }
        // Filled from the last to the first; it is the number that makes the order.
        for (int i = 7; i >= 0; i--) x.line(i, i % 4, 2, i, i);
        is(sentence, "sail(1) of all eight", x.sail(1), 20 + 10 + 6 + (1065 + 62 + 63 + 1064) + (20 / 2 + 3 + 10 - 1 + 3)
            + 2 * (10 + 4 + 6) + 4 + -69);
        notesAre(sentence, x, 80, 1, 12, 33, 23, 83, 83, 83, 23, 83, 40, 20, 80, 20, 80, 51, 31, 1, 82, 63, 83);
        x.line(0, -1, 0, 0, 0);
        x.line(7, -1, 0, 0, 0);
        x.sail(1);
        is(sentence, "note(0) once line 0 is empty", x.note(0), 1);
        is(sentence, "notes() once lines 0 and 7 are empty", x.notes(), 21 - 3);
    }

    /** A bill of one HAND that has sailed so often with so many lines of PAY: that many notes are made. */
    private static WatchBill sailed(int lines, int times) {
        WatchBill x = crewOf(0, HAND);
        for (int i = 0; i < lines; i++) x.line(i, PAY, 1, HAND, HAND);
        x.sail(times);
        return x;
    }

    private static void notesKept() {
        String sentence = "NOTES: the first 64 are kept";
        WatchBill less = sailed(7, 9);
        is(sentence, "note(62) of 63", less.note(62), 1);
        is(sentence, "note(63) of 63", less.note(63), REFUSED);
        WatchBill just = sailed(8, 8);
        is(sentence, "note(63) of 64", just.note(63), 1);
        is(sentence, "note(64) of 64", just.note(64), REFUSED);
        WatchBill more = sailed(5, 13);
        is(sentence, "note(63) of 65", more.note(63), 1);
        is(sentence, "note(64) of 65", more.note(64), REFUSED);
        // HANDs climb, are paid and heed: by twelves, so that the kept notes end among those of line 5.
        WatchBill x = crewOf(0, twelveOf(HAND));
        int[] duties = {PAY, CLIMB, HEED, PAY, CLIMB, HEED, TOIL, TOIL};
        int[] noted = {1, 82, 83, 1, 82, 83, 80, 80};
        for (int i = 0; i < 8; i++) x.line(i, duties[i], 1, HAND, HAND);
        x.sail(20);
        for (int i = 0; i < 64; i++) is(sentence, "note(" + i + ")", x.note(i), noted[i / 12]);
        for (int i = 64; i < 70; i++) is(sentence, "note(" + i + ")", x.note(i), REFUSED);
        is(sentence, "note(1919)", x.note(1919), REFUSED);
        // What was kept then is not there any more behind a call that notes less.
        x.climb(0, 1);
        notesAre(sentence, x, 82);
        is(sentence, "note(63) behind a climb", x.note(63), REFUSED);
    }

    private static void notesCounted() {
        String sentence = "NOTES: all are counted";
        is(sentence, "notes() of 63", sailed(7, 9).notes(), 63);
        is(sentence, "notes() of 64", sailed(8, 8).notes(), 64);
        is(sentence, "notes() of 65", sailed(5, 13).notes(), 65);
        is(sentence, "notes() of 160", sailed(8, 20).notes(), 160);
        // A TOPMAN notes 2, a MASTER 4 and those of eleven TOPMEN: 8 lines, 20 times.
        WatchBill x = crewOf(0, oneAndEleven(MASTER, TOPMAN));
        for (int i = 0; i < 8; i++) x.line(i, HEED, i % 2, HAND, SURGEON);
        x.sail(20);
        is(sentence, "notes() of the longest voyage", x.notes(), 20 * 4 * (4 + 11 * 2 + 11) + 20 * 4 * (3 + 11 + 11 * 2));
    }

    private static void notesNoneBefore() {
        String sentence = "NOTES: None before";
        WatchBill x = new WatchBill();
        notesAre(sentence, x);
        x.enlist(HAND, 0);
        x.promote(0);
        x.demote(0);
        x.line(0, PAY, 1, HAND, HAND);
        x.rest(0);
        x.told(0, RANK);
        notesAre(sentence, x);
        x.toil(0, 101);
        x.pay(1, 1);
        x.climb(0, 201);
        x.heed(0, -1);
        x.race(0, 1, 1);
        x.due(0, 1, 1);
        x.feed(0, 1);
        x.watch(4, 1);
        x.sail(21);
        notesAre(sentence, x);
        is(sentence, "note(63)", x.note(63), REFUSED);
    }

    /** A bill whose latest notes are 42, 12, as no call of the next test makes them. */
    private static WatchBill noted() {
        WatchBill x = crewOf(0, HAND, SAILOR, MATE, COOK);
        x.line(0, TOIL, 1, SAILOR, SAILOR);
        x.climb(2, 1);
        return x;
    }

    private static void notesOfTheLatestCall() {
        String sentence = "NOTES: those of the latest call of toil, pay, climb, heed, race, due, feed, watch, sail, in order";
        WatchBill x = noted();
        notesAre(sentence, x, 42, 12);
        x.toil(3, 1);
        notesAre(sentence, x, 60, 80);
        x.pay(2, 1);
        notesAre(sentence, x, 31, 1);
        x.climb(1, 31);
        notesAre(sentence, x, 12, 82);
        x.heed(3, 1);
        notesAre(sentence, x, 63, 83);
        x.race(2, 1, 2);
        notesAre(sentence, x, 42, 12, 42, 12);
        x.due(1, 1, 1);
        notesAre(sentence, x, 1);
        x.feed(3, 1);
        notesAre(sentence, x, 60, 80);
        x.watch(CLIMB, 1);
        notesAre(sentence, x, 82, 12, 42, 12, 82);
        x.sail(2);
        notesAre(sentence, x, 80, 80);
        // The other calls leave them, whether they are refused or not.
        x.enlist(HAND, 0);
        x.promote(0);
        x.demote(0);
        x.line(1, PAY, 1, HAND, SURGEON);
        x.line(0, -1, 0, 0, 0);
        x.rest(1);
        x.told(0, RANK);
        x.told(0, 7);
        x.enlist(8, 0);
        x.promote(9);
        x.demote(0);
        x.line(8, PAY, 1, HAND, SURGEON);
        x.rest(-1);
        notesAre(sentence, x, 80, 80);
    }

    private static void notesOfCallsThatDoNothing() {
        String sentence = "NOTES: those of the latest call that had not been refused, though it did nothing";
        WatchBill race = noted();
        is(sentence, "race(2, 1, 0)", race.race(2, 1, 0), 0);
        notesAre(sentence, race);
        WatchBill still = noted();
        is(sentence, "sail(0)", still.sail(0), 0);
        notesAre(sentence, still);
        WatchBill planless = noted();
        planless.line(0, -1, 0, 0, 0);
        is(sentence, "sail(20) without a line", planless.sail(20), 0);
        notesAre(sentence, planless);
        WatchBill nobody = noted();
        nobody.line(0, TOIL, 1, MASTER, MASTER);
        is(sentence, "sail(20) for a rank that nobody has", nobody.sail(20), 0);
        notesAre(sentence, nobody);
        WatchBill empty = new WatchBill();
        for (int d = TOIL; d <= HEED; d++) {
            is(sentence, "watch(" + d + ", 1) without members", empty.watch(d, 1), 0);
            notesAre(sentence, empty);
        }
        // A call that answers 0, or -1 and nothing else, has notes for all that.
        WatchBill x = noted();
        x.due(1, 0, MOST);
        notesAre(sentence, x, 1);
        x.climb(0, 200);
        notesAre(sentence, x, 82);
    }

    private static void lastOfTheCalls() {
        String sentence = "An object is used for at most 512 calls";
        WatchBill x = new WatchBill();
        x.enlist(HAND, 0);
        for (int call = 2; call <= 511; call++) is(sentence, "call " + call, x.pay(0, 1000), 5000);
        is(sentence, "told(0, PURSE) as the 512th call", x.told(0, PURSE), 510 * 5000);
    }
}
