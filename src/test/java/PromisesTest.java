/** Each promise of the document by itself: ordinary inputs, its edges, and what it refuses. */
public final class PromisesTest extends Checks {
    public static void main(String[] args) {
        newObject();
        newObjectBesideAnother();
        enlist();
        promote();
        demote();
        toil();
        toilOfTheWeary();
        pay();
        climb();
        heed();
        race();
        due();
        feed();
        watch();
        line();
        sail();
        rest();
        told();
        note();
        notesStayWhereTheyShould();
        end();
    }

    private static void newObject() {
        WatchBill x = new WatchBill();
        is(1, "REFUSED", WatchBill.REFUSED, REFUSED);
        is(1, "notes()", x.notes(), 0);
        is(1, "note(0)", x.note(0), REFUSED);
        is(1, "told(0, 0)", x.told(0, RANK), REFUSED);
        is(1, "toil(0, 1)", x.toil(0, 1), REFUSED);
        is(1, "rest(5)", x.rest(5), 0);
        is(1, "watch(0, 10)", x.watch(TOIL, 10), 0);
        x.enlist(HAND, 10);
        is(1, "sail(20) of an empty plan", x.sail(20), 0);
        is(1, "notes()", x.notes(), 0);
    }

    private static void newObjectBesideAnother() {
        WatchBill x = crewOf(25, HAND, MATE);
        for (int i = 0; i < 8; i++) x.line(i, PAY, 10, HAND, SURGEON);
        x.sail(1);
        x.toil(1, 10);
        String before = stateOf(x);
        WatchBill y = new WatchBill();
        is(1, "rest(0) beside a bill of two members", y.rest(0), 0);
        is(1, "notes() beside a bill with notes", y.notes(), 0);
        is(1, "enlist(7, 50)", y.enlist(SURGEON, 50), 0);
        is(1, "sail(20) beside a bill with a full plan", y.sail(20), 0);
        y.line(0, CLIMB, 11, SURGEON, SURGEON);
        y.line(1, CLIMB, 11, HAND, HAND);
        is(1, "sail(1)", y.sail(1), 10);
        y.promote(0);
        y.demote(0);
        notesAre(1, y, 72, 82);
        if (!before.equals(stateOf(x))) fail("promise 1", "the calls on a new object changed another");
        is(1, "sail(1) of the first bill", x.sail(1), 8 * (70 + 100));
        notesAre(1, y, 72, 82);
    }

    private static void enlist() {
        WatchBill x = new WatchBill();
        is(2, "enlist(-1, 0)", x.enlist(-1, 0), REFUSED);
        is(2, "enlist(8, 0)", x.enlist(8, 0), REFUSED);
        is(2, "enlist(0, -1)", x.enlist(HAND, -1), REFUSED);
        is(2, "enlist(0, 100)", x.enlist(HAND, 100), REFUSED);
        is(2, "enlist(LEAST, MOST)", x.enlist(LEAST, MOST), REFUSED);
        is(2, "enlist(MOST, LEAST)", x.enlist(MOST, LEAST), REFUSED);
        is(2, "rest(0)", x.rest(0), 0);
        for (int k = 0; k < 12; k++) {
            int skill = k == 0 ? 0 : k == 1 ? 99 : 5 * k;
            is(2, "enlist of member " + k, x.enlist(k % 8, skill), k);
            is(2, "its rank", x.told(k, RANK), k % 8);
            is(2, "its skill", x.told(k, SKILL), skill);
            is(2, "its weariness", x.told(k, WEARY), 0);
            is(2, "its purse", x.told(k, PURSE), 0);
        }
        is(2, "enlist of a 13th", x.enlist(HAND, 1), REFUSED);
        is(2, "rest(0)", x.rest(0), 12);
        is(2, "told(12, 0)", x.told(12, RANK), REFUSED);
    }

    private static void promote() {
        WatchBill x = crewOf(30, HAND, COOK);
        x.pay(0, 10);
        x.toil(0, 7);
        for (int rank = SAILOR; rank <= MASTER; rank++) {
            is(3, "promote(0)", x.promote(0), rank);
            is(3, "told(0, RANK)", x.told(0, RANK), rank);
        }
        is(3, "promote of a MASTER", x.promote(0), REFUSED);
        is(3, "told(0, RANK)", x.told(0, RANK), MASTER);
        is(3, "told(0, SKILL)", x.told(0, SKILL), 30);
        is(3, "told(0, WEARY)", x.told(0, WEARY), 7);
        is(3, "told(0, PURSE)", x.told(0, PURSE), 80);
        is(3, "promote of a COOK", x.promote(1), SURGEON);
        is(3, "promote of a SURGEON", x.promote(1), REFUSED);
        is(3, "told(1, RANK)", x.told(1, RANK), SURGEON);
        is(3, "promote(-1)", x.promote(-1), REFUSED);
        is(3, "promote(2)", x.promote(2), REFUSED);
        x.heed(0, 1);
        notesAre(3, x, 53, 33, 23, 83);
    }

    private static void demote() {
        WatchBill x = crewOf(30, MASTER, SURGEON);
        x.pay(0, 10);
        x.climb(0, 20);
        for (int rank = MATE; rank >= HAND; rank--) {
            is(4, "demote(0)", x.demote(0), rank);
            is(4, "told(0, RANK)", x.told(0, RANK), rank);
        }
        is(4, "demote of a HAND", x.demote(0), REFUSED);
        is(4, "told(0, RANK)", x.told(0, RANK), HAND);
        is(4, "told(0, SKILL)", x.told(0, SKILL), 30);
        is(4, "told(0, WEARY)", x.told(0, WEARY), 10);
        is(4, "told(0, PURSE)", x.told(0, PURSE), 200);
        is(4, "demote of a SURGEON", x.demote(1), COOK);
        is(4, "demote of a COOK", x.demote(1), HAND);
        is(4, "demote of a HAND", x.demote(1), REFUSED);
        is(4, "demote(-1)", x.demote(-1), REFUSED);
        is(4, "demote(2)", x.demote(2), REFUSED);
        x.climb(0, 20);
        notesAre(4, x, 82);
    }

    private static void toil() {
        int[] ranks = {HAND, SAILOR, TOPMAN, BOSUN, MATE, MASTER, COOK, SURGEON};
        // Skill 20, n 41: a SOUL's toil is 1230; a MATE's halves are 20 and 21, the second 20 wearier;
        // a MASTER's is 4 times a MATE's of 10: halves of 5 and 5, the second 5 wearier.
        long[] want = {1230, 1230, 1353, 1353, 1333, 1300, 1230, 1230};
        int[] weary = {41, 41, 41, 41, 41, 10, 21, 21};
        int[][] notes = {{80}, {80}, {20, 80}, {20, 80}, {40, 20, 80, 20, 80}, {50, 40, 20, 80, 20, 80}, {60, 80}, {60, 80}};
        WatchBill x = crewOf(20, ranks);
        for (int k = 0; k < ranks.length; k++) {
            is(5, "toil(" + k + ", 41)", x.toil(k, 41), want[k]);
            is(5, "its weariness", x.told(k, WEARY), weary[k]);
            notesAre(5, x, notes[k]);
        }
        x = crewOf(20, HAND, MASTER, COOK);
        is(5, "toil(0, 0)", x.toil(0, 0), 0);
        is(5, "toil(0, 100)", x.toil(0, 100), 3000);
        is(5, "toil(0, 3), which is less than its weariness", x.toil(0, 3), 0);
        is(5, "toil(0, 4)", x.toil(0, 4), 17);
        is(5, "toil(1, 40)", x.toil(1, 40), 1300);
        is(5, "told(1, WEARY), as a MASTER does 40 whole", x.told(1, WEARY), 40);
        is(5, "toil(2, 1), which rests by nothing", x.toil(2, 1), 30);
        is(5, "told(2, WEARY)", x.told(2, WEARY), 1);
        is(5, "toil(0, -1)", x.toil(0, -1), REFUSED);
        is(5, "toil(0, 101)", x.toil(0, 101), REFUSED);
        is(5, "toil(0, LEAST)", x.toil(0, LEAST), REFUSED);
        is(5, "toil(0, MOST)", x.toil(0, MOST), REFUSED);
        is(5, "toil(3, 1)", x.toil(3, 1), REFUSED);
        is(5, "toil(-1, 1)", x.toil(-1, 1), REFUSED);
    }

    private static void toilOfTheWeary() {
        WatchBill x = crewOf(20, TOPMAN, MATE, HAND);
        makeWeary(x, 0, 500);
        is(5, "toil of a TOPMAN at 500", x.toil(0, 1), 3);
        is(5, "toil of a TOPMAN at 501", x.toil(0, 20), 0);
        notesAre(5, x, 20);
        is(5, "its weariness", x.told(0, WEARY), 501);
        makeWeary(x, 1, 495);
        is(5, "toil of a MATE whose second half is too weary", x.toil(1, 21), 30);
        notesAre(5, x, 40, 20, 80, 20);
        is(5, "its weariness", x.told(1, WEARY), 505);
        makeWeary(x, 2, 950);
        is(5, "toil of a HAND up to 1000", x.toil(2, 100), 2050);
        is(5, "its weariness", x.told(2, WEARY), 1000);
        // It tires to 1000 at most before it rests: 1000 - 50.
        WatchBill y = crewOf(20, COOK);
        for (int i = 0; i < 20; i++) y.toil(0, 100);
        is(5, "weariness of a COOK who toils without end", y.told(0, WEARY), 950);
    }

    private static void pay() {
        // Skill 25: a HAND's pay of 10 is 70; three members are below BOSUN; nobody is weary.
        long[] want = {70, 70, 70, 120, 120, 240, 70, 70};
        int[][] notes = {{1}, {1}, {1}, {31, 1}, {31, 1}, {51, 31, 1}, {1}, {71, 1}};
        WatchBill x = crewOf(25, HAND, SAILOR, TOPMAN, BOSUN, MATE, MASTER, COOK, SURGEON);
        for (int k = 0; k < 8; k++) {
            is(6, "pay(" + k + ", 10)", x.pay(k, 10), want[k]);
            is(6, "its purse", x.told(k, PURSE), want[k]);
            is(6, "its weariness", x.told(k, WEARY), 0);
            x.pay(k, 10);
            notesAre(6, x, notes[k]);
            is(6, "its purse", x.told(k, PURSE), 2 * want[k]);
        }
        makeWeary(x, 5, 299);
        is(6, "pay of a MASTER at 299", x.pay(5, 10), 240);
        x.demote(5);
        x.climb(5, 2);
        x.promote(5);
        is(6, "told(5, WEARY)", x.told(5, WEARY), 300);
        is(6, "pay of a MASTER at 300", x.pay(5, 10), 120);
        makeWeary(x, 0, 500);
        is(6, "pay of a SURGEON, a HAND at 500", x.pay(7, 10), 70);
        x.toil(0, 1);
        is(6, "pay of a SURGEON, a HAND at 501", x.pay(7, 10), 77);
        for (int i = 0; i < 11; i++) x.toil(7, 100);
        is(6, "told(7, WEARY)", x.told(7, WEARY), 550);
        is(6, "pay of a SURGEON who is weary too", x.pay(7, 10), 84);
        is(6, "pay(0, 0)", x.pay(0, 0), 0);
        is(6, "pay(0, 1000)", x.pay(0, 1000), 7000);
        is(6, "pay(0, -1)", x.pay(0, -1), REFUSED);
        is(6, "pay(0, 1001)", x.pay(0, 1001), REFUSED);
        is(6, "pay(8, 1)", x.pay(8, 1), REFUSED);
        is(6, "pay(-1, 1)", x.pay(-1, 1), REFUSED);
        is(6, "told(0, PURSE)", x.told(0, PURSE), 7140);
    }

    private static void climb() {
        int[] ranks = {HAND, SAILOR, TOPMAN, BOSUN, MATE, MASTER, COOK, SURGEON};
        long[] at30 = {60, 90, 90, 90, 91, 91, 60, 30};
        int[] weary30 = {30, 15, 15, 15, 15, 15, 30, 15};
        int[][] notes30 = {{82}, {12}, {12}, {12}, {42, 12}, {42, 12}, {82}, {72, 82}};
        // Skill 25: 35 is the highest that a SOUL climbs.
        long[] at35 = {70, 70, 70, 70, 71, 71, 70, 34};
        int[] weary35 = {65, 50, 50, 50, 50, 50, 65, 32};
        long[] at36 = {-1, -1, -1, -1, -1, -1, -1, 36};
        int[][] notes36 = {{82}, {12, 82}, {12, 82}, {12, 82}, {42, 12, 82}, {42, 12, 82}, {82}, {72, 82}};
        WatchBill x = crewOf(25, ranks);
        for (int k = 0; k < ranks.length; k++) {
            is(7, "climb(" + k + ", 30)", x.climb(k, 30), at30[k]);
            is(7, "its weariness", x.told(k, WEARY), weary30[k]);
            notesAre(7, x, notes30[k]);
            is(7, "climb(" + k + ", 35)", x.climb(k, 35), at35[k]);
            is(7, "its weariness", x.told(k, WEARY), weary35[k]);
            is(7, "climb(" + k + ", 36)", x.climb(k, 36), at36[k]);
            is(7, "its weariness", x.told(k, WEARY), k == 7 ? 50 : weary35[k]);
            notesAre(7, x, notes36[k]);
        }
        is(7, "climb(7, 71)", x.climb(7, 71), 70);
        is(7, "climb(7, 72)", x.climb(7, 72), -1);
        is(7, "climb(4, 0)", x.climb(4, 0), 1);
        is(7, "climb(1, 31)", x.climb(1, 31), 62);
        is(7, "climb(0, 200)", x.climb(0, 200), -1);
        is(7, "climb(0, 201)", x.climb(0, 201), REFUSED);
        is(7, "climb(0, -1)", x.climb(0, -1), REFUSED);
        is(7, "climb(8, 1)", x.climb(8, 1), REFUSED);
        is(7, "climb(-1, 1)", x.climb(-1, 1), REFUSED);
        // A SAILOR of no skill climbs 30, though a SOUL of none could not.
        is(7, "climb of 30 without skill", crewOf(0, SAILOR).climb(0, 30), 90);
        is(7, "climb of 31 without skill", crewOf(0, SAILOR).climb(0, 31), -1);
    }

    private static void heed() {
        WatchBill x = crewOf(10, COOK, HAND, BOSUN, TOPMAN, MASTER, SAILOR, SURGEON, MATE);
        is(8, "heed(1, 100)", x.heed(1, 100), 101);
        notesAre(8, x, 83);
        is(8, "heed(0, 100)", x.heed(0, 100), -100);
        notesAre(8, x, 63, 83);
        is(8, "heed(6, 100)", x.heed(6, 100), -106);
        notesAre(8, x, 63, 83);
        is(8, "heed(3, 100)", x.heed(3, 100), 1103);
        notesAre(8, x, 23, 83);
        is(8, "heed(3, 101)", x.heed(3, 101), 101);
        notesAre(8, x, 23);
        // Itself 1102, then members 1, 3 and 5.
        is(8, "heed(2, 100)", x.heed(2, 100), 1102 + 101 + 1103 + 105);
        notesAre(8, x, 33, 23, 83, 83, 23, 83, 83);
        is(8, "heed(7, 101)", x.heed(7, 101), 101 + 132 + 101 + 136);
        notesAre(8, x, 33, 23, 83, 23, 83);
        is(8, "heed(4, 99)", x.heed(4, 99), 1104 + 101 + 1103 + 105);
        notesAre(8, x, 53, 33, 23, 83, 83, 23, 83, 83);
        makeWeary(x, 4, 699);
        is(8, "heed of a MASTER at 699", x.heed(4, 100), 101 + 132 + 101 + 136);
        x.demote(4);
        x.climb(4, 2);
        x.promote(4);
        is(8, "told(4, WEARY)", x.told(4, WEARY), 700);
        is(8, "heed of a MASTER at 700", x.heed(4, 100), -5);
        notesAre(8, x, 53);
        is(8, "told(4, WEARY)", x.told(4, WEARY), 700);
        is(8, "heed(1, 0)", x.heed(1, 0), 1);
        is(8, "heed(0, 0)", x.heed(0, 0), 0);
        is(8, "heed(1, 9999)", x.heed(1, 9999), 970);
        x.rest(1000);
        // The MASTER's ELDER does 10000, beyond the bound that the call has.
        is(8, "heed(4, 9999)", x.heed(4, 9999), 1004 + 1 + 1003 + 5);
        is(8, "heed(1, 10000)", x.heed(1, 10000), REFUSED);
        is(8, "heed(1, -1)", x.heed(1, -1), REFUSED);
        is(8, "heed(8, 1)", x.heed(8, 1), REFUSED);
        is(8, "heed(-1, 1)", x.heed(-1, 1), REFUSED);
    }

    private static void race() {
        WatchBill x = crewOf(25, TOPMAN, BOSUN, MATE, MASTER, HAND, SAILOR, COOK, SURGEON);
        is(9, "race(0, 20, 4)", x.race(0, 20, 4), 240);
        is(9, "told(0, WEARY)", x.told(0, WEARY), 40);
        notesAre(9, x, 12, 12, 12, 12);
        is(9, "race(1, 35, 20)", x.race(1, 35, 20), 1400);
        is(9, "told(1, WEARY)", x.told(1, WEARY), 700);
        is(9, "race(2, 20, 2)", x.race(2, 20, 2), 122);
        notesAre(9, x, 42, 12, 42, 12);
        is(9, "race(2, 36, 5)", x.race(2, 36, 5), 0);
        notesAre(9, x, 42, 12, 82);
        is(9, "race(3, 20, 2)", x.race(3, 20, 2), 244);
        is(9, "race(3, 20, 3)", x.race(3, 20, 3), 366);
        is(9, "race(3, 20, 4)", x.race(3, 20, 4), 366);
        notesAre(9, x, 42, 12, 42, 12, 42, 12);
        is(9, "told(3, WEARY)", x.told(3, WEARY), 80);
        is(9, "race(3, 200, 20)", x.race(3, 200, 20), 0);
        is(9, "race(0, 20, 0)", x.race(0, 20, 0), 0);
        notesAre(9, x);
        is(9, "race(3, 20, 0)", x.race(3, 20, 0), 0);
        is(9, "race(0, 20, 21)", x.race(0, 20, 21), REFUSED);
        is(9, "race(0, 20, -1)", x.race(0, 20, -1), REFUSED);
        is(9, "race(0, 201, 1)", x.race(0, 201, 1), REFUSED);
        is(9, "race(0, -1, 1)", x.race(0, -1, 1), REFUSED);
        is(9, "race(8, 1, 1)", x.race(8, 1, 1), REFUSED);
        is(9, "race(-1, 1, 1)", x.race(-1, 1, 1), REFUSED);
        for (int k = 4; k < 8; k++) is(9, "race(" + k + ", 1, 1)", x.race(k, 1, 1), REFUSED);
    }

    private static void due() {
        WatchBill x = crewOf(25, HAND, SAILOR, TOPMAN, BOSUN, MATE, MASTER, COOK, SURGEON);
        long[] want = {REFUSED, 60, 60, 110, 110, 230, 60, 60};
        for (int k = 0; k < 8; k++) {
            is(10, "due(" + k + ", 10, 10)", x.due(k, 10, 10), want[k]);
            is(10, "its purse", x.told(k, PURSE), 0);
        }
        notesAre(10, x, 71, 1);
        is(10, "due(1, 10, 0)", x.due(1, 10, 0), 70);
        is(10, "due(1, 10, 69)", x.due(1, 10, 69), 1);
        is(10, "due(1, 10, 70)", x.due(1, 10, 70), 0);
        is(10, "due(1, 10, 71)", x.due(1, 10, 71), 0);
        is(10, "due(1, 10, MOST)", x.due(1, 10, MOST), 0);
        is(10, "due(1, 10, -1)", x.due(1, 10, -1), REFUSED);
        is(10, "due(1, 10, LEAST)", x.due(1, 10, LEAST), REFUSED);
        is(10, "due(1, 1000, 0)", x.due(1, 1000, 0), 7000);
        is(10, "due(1, 1001, 0)", x.due(1, 1001, 0), REFUSED);
        is(10, "due(1, -1, 0)", x.due(1, -1, 0), REFUSED);
        is(10, "due(8, 1, 0)", x.due(8, 1, 0), REFUSED);
        is(10, "due(-1, 1, 0)", x.due(-1, 1, 0), REFUSED);
    }

    private static void feed() {
        WatchBill x = crewOf(25, HAND, COOK, TOPMAN, SURGEON);
        makeWeary(x, 0, 100);
        makeWeary(x, 2, 10);
        is(11, "feed(1, 50)", x.feed(1, 50), 17);
        notesAre(11, x, 60, 80);
        is(11, "told(0, WEARY)", x.told(0, WEARY), 83);
        is(11, "told(1, WEARY)", x.told(1, WEARY), 25);
        is(11, "told(2, WEARY)", x.told(2, WEARY), 0);
        is(11, "feed(3, 100)", x.feed(3, 100), 35);
        is(11, "told(0, WEARY)", x.told(0, WEARY), 48);
        is(11, "told(1, WEARY)", x.told(1, WEARY), 0);
        is(11, "told(3, WEARY)", x.told(3, WEARY), 50);
        is(11, "feed(1, 2)", x.feed(1, 2), 0);
        is(11, "feed(1, 0)", x.feed(1, 0), 0);
        is(11, "feed(1, 101)", x.feed(1, 101), REFUSED);
        is(11, "feed(1, -1)", x.feed(1, -1), REFUSED);
        is(11, "feed(4, 1)", x.feed(4, 1), REFUSED);
        is(11, "feed(-1, 1)", x.feed(-1, 1), REFUSED);
        WatchBill y = crewOf(25, HAND, SAILOR, TOPMAN, BOSUN, MATE, MASTER);
        for (int k = 0; k < 6; k++) is(11, "feed(" + k + ", 10)", y.feed(k, 10), REFUSED);
    }

    private static void watch() {
        WatchBill x = crewOf(25, COOK, HAND, BOSUN, MASTER);
        // COOK 350, HAND 350, BOSUN 380, MASTER 350 + 30 - 5.
        is(12, "watch(TOIL, 10)", x.watch(TOIL, 10), 350 + 350 + 380 + 375);
        notesAre(12, x, 60, 80, 80, 20, 80, 50, 40, 20, 80, 20, 80);
        is(12, "watch(PAY, 10)", x.watch(PAY, 10), 70 + 70 + 100 + 200);
        notesAre(12, x, 1, 1, 31, 1, 51, 31, 1);
        for (int k = 0; k < 4; k++) is(12, "told(" + k + ", PURSE)", x.told(k, PURSE), 0);
        is(12, "watch(CLIMB, 20)", x.watch(CLIMB, 20), 40 + 40 + 60 + 61);
        is(12, "watch(CLIMB, 36)", x.watch(CLIMB, 36), -4);
        is(12, "watch(HEED, 100)", x.watch(HEED, 100), -100 + 101 + (1102 + 101) + (101 + 132));
        notesAre(12, x, 63, 83, 83, 33, 23, 83, 83, 53, 33, 23, 83);
        is(12, "watch(TOIL, 101)", x.watch(TOIL, 101), REFUSED);
        is(12, "watch(PAY, 1001)", x.watch(PAY, 1001), REFUSED);
        is(12, "watch(CLIMB, 201)", x.watch(CLIMB, 201), REFUSED);
        is(12, "watch(HEED, 10000)", x.watch(HEED, 10000), REFUSED);
        for (int d = TOIL; d <= HEED; d++) is(12, "watch(" + d + ", -1)", x.watch(d, -1), REFUSED);
        is(12, "watch(-1, 0)", x.watch(-1, 0), REFUSED);
        is(12, "watch(4, 0)", x.watch(4, 0), REFUSED);
        // The sum of all is no REFUSED, though it is below 0.
        is(12, "watch(HEED, 32)", crewOf(9, COOK, SURGEON).watch(HEED, 32), -992 - 993);
    }

    private static void line() {
        WatchBill x = crewOf(25, HAND, SAILOR);
        is(13, "line(-1, TOIL, 1, 0, 7)", x.line(-1, TOIL, 1, 0, 7), REFUSED);
        is(13, "line(8, TOIL, 1, 0, 7)", x.line(8, TOIL, 1, 0, 7), REFUSED);
        is(13, "line(8, -1, 0, 0, 0)", x.line(8, -1, 0, 0, 0), REFUSED);
        is(13, "line(-1, -1, 0, 0, 0)", x.line(-1, -1, 0, 0, 0), REFUSED);
        is(13, "line(0, -2, 1, 0, 7)", x.line(0, -2, 1, 0, 7), REFUSED);
        is(13, "line(0, 4, 1, 0, 7)", x.line(0, 4, 1, 0, 7), REFUSED);
        int[] bounds = {100, 1000, 200, 9999};
        for (int d = TOIL; d <= HEED; d++) {
            is(13, "line(0, " + d + ", bound + 1, 0, 7)", x.line(0, d, bounds[d] + 1, 0, 7), REFUSED);
            is(13, "line(0, " + d + ", -1, 0, 7)", x.line(0, d, -1, 0, 7), REFUSED);
        }
        is(13, "line(0, TOIL, 1, -1, 7)", x.line(0, TOIL, 1, -1, 7), REFUSED);
        is(13, "line(0, TOIL, 1, 0, 8)", x.line(0, TOIL, 1, 0, 8), REFUSED);
        is(13, "line(0, TOIL, 1, 8, 8)", x.line(0, TOIL, 1, 8, 8), REFUSED);
        is(13, "line(0, TOIL, 1, 3, 2)", x.line(0, TOIL, 1, 3, 2), REFUSED);
        is(13, "sail(1) after what was refused", x.sail(1), 0);
        for (int d = TOIL; d <= HEED; d++) {
            is(13, "line(7, " + d + ", bound, 7, 7)", x.line(7, d, bounds[d], 7, 7), 1);
            is(13, "line(7, " + d + ", 0, 0, 0)", x.line(7, d, 0, 0, 0), 1);
        }
        is(13, "line(0, HEED, 100, 1, 1)", x.line(0, HEED, 100, 1, 1), 1);
        is(13, "sail(1)", x.sail(1), 101);
        is(13, "line(0, HEED, 10000, 0, 0)", x.line(0, HEED, 10000, 0, 0), REFUSED);
        is(13, "sail(1): a refused line leaves what was there", x.sail(1), 101);
        is(13, "line(0, HEED, 200, 1, 1)", x.line(0, HEED, 200, 1, 1), 1);
        is(13, "sail(1) of the new line", x.sail(1), 201);
        is(13, "line(0, -1, LEAST, MOST, LEAST)", x.line(0, -1, LEAST, MOST, LEAST), 1);
        is(13, "sail(1) of an emptied line", x.sail(1), 0);
        is(13, "line(3, -1, 0, 0, 0) of an empty line", x.line(3, -1, 0, 0, 0), 1);
        is(13, "notes(): line() makes none and takes none", x.notes(), 1);
    }

    private static void sail() {
        WatchBill x = crewOf(25, TOPMAN, HAND, COOK, SURGEON);
        x.line(5, PAY, 10, HAND, COOK);
        x.line(2, TOIL, 10, COOK, SURGEON);
        x.line(7, CLIMB, 20, TOPMAN, TOPMAN);
        is(14, "sail(0)", x.sail(0), 0);
        notesAre(14, x);
        is(14, "sail(1)", x.sail(1), 700 + 210 + 60);
        notesAre(14, x, 60, 80, 60, 80, 1, 1, 1, 12);
        is(14, "told(0, PURSE)", x.told(0, PURSE), 70);
        is(14, "told(2, PURSE)", x.told(2, PURSE), 70);
        is(14, "told(3, PURSE)", x.told(3, PURSE), 0);
        is(14, "told(0, WEARY)", x.told(0, WEARY), 10);
        is(14, "told(2, WEARY)", x.told(2, WEARY), 5);
        // Each time the two carers are 5 wearier than before.
        is(14, "sail(2)", x.sail(2), 690 + 210 + 60 + 680 + 210 + 60);
        is(14, "notes()", x.notes(), 16);
        is(14, "told(1, PURSE)", x.told(1, PURSE), 210);
        x.sail(20);
        is(14, "notes()", x.notes(), 160);
        is(14, "told(1, PURSE)", x.told(1, PURSE), 1610);
        is(14, "sail(21)", x.sail(21), REFUSED);
        is(14, "sail(-1)", x.sail(-1), REFUSED);
        is(14, "notes()", x.notes(), 160);
        is(14, "told(1, PURSE)", x.told(1, PURSE), 1610);
        x.demote(3);
        x.demote(3);
        x.line(2, -1, 0, 0, 0);
        x.line(7, -1, 0, 0, 0);
        is(14, "sail(1) with the ranks of now", x.sail(1), 280);
        // A TOIL in the plan comes into no purse.
        WatchBill y = crewOf(25, HAND);
        y.line(0, TOIL, 10, HAND, HAND);
        is(14, "sail(1)", y.sail(1), 350);
        is(14, "told(0, PURSE)", y.told(0, PURSE), 0);
    }

    private static void rest() {
        WatchBill x = crewOf(25, HAND, SAILOR);
        makeWeary(x, 0, 300);
        makeWeary(x, 1, 50);
        is(15, "rest(100)", x.rest(100), 2);
        is(15, "told(0, WEARY)", x.told(0, WEARY), 200);
        is(15, "told(1, WEARY)", x.told(1, WEARY), 0);
        is(15, "rest(-1)", x.rest(-1), REFUSED);
        is(15, "rest(1001)", x.rest(1001), REFUSED);
        is(15, "rest(LEAST)", x.rest(LEAST), REFUSED);
        is(15, "told(0, WEARY)", x.told(0, WEARY), 200);
        is(15, "rest(0)", x.rest(0), 2);
        is(15, "told(0, WEARY)", x.told(0, WEARY), 200);
        is(15, "rest(1000)", x.rest(1000), 2);
        is(15, "told(0, WEARY)", x.told(0, WEARY), 0);
    }

    private static void told() {
        WatchBill x = crewOf(42, HAND, SAILOR, TOPMAN, BOSUN, MATE, MASTER, COOK, SURGEON);
        int[] climber = {0, 0, 1, 1, 1, 1, 0, 0};
        int[] payee = {0, 1, 1, 1, 1, 1, 1, 1};
        int[] carer = {0, 0, 0, 0, 0, 0, 1, 1};
        for (int k = 0; k < 8; k++) {
            is(16, "told(" + k + ", RANK)", x.told(k, RANK), k);
            is(16, "told(" + k + ", SKILL)", x.told(k, SKILL), 42);
            is(16, "told(" + k + ", CLIMBER)", x.told(k, CLIMBER), climber[k]);
            is(16, "told(" + k + ", PAYEE)", x.told(k, PAYEE), payee[k]);
            is(16, "told(" + k + ", CARER)", x.told(k, CARER), carer[k]);
            is(16, "told(" + k + ", 7)", x.told(k, 7), REFUSED);
            is(16, "told(" + k + ", -1)", x.told(k, -1), REFUSED);
        }
        is(16, "told(8, 0)", x.told(8, RANK), REFUSED);
        is(16, "told(-1, 0)", x.told(-1, RANK), REFUSED);
        is(16, "told(MOST, MOST)", x.told(MOST, MOST), REFUSED);
        x.promote(1);
        is(16, "told(1, CLIMBER) once it is a TOPMAN", x.told(1, CLIMBER), 1);
        x.demote(6);
        is(16, "told(6, CARER) once it is a HAND", x.told(6, CARER), 0);
        is(16, "told(6, PAYEE) once it is a HAND", x.told(6, PAYEE), 0);
    }

    private static void note() {
        WatchBill x = crewOf(10, HAND, COOK);
        x.line(0, HEED, 1, HAND, COOK);
        x.sail(20);
        is(18, "notes()", x.notes(), 60);
        is(17, "note(58)", x.note(58), 63);
        is(17, "note(59)", x.note(59), 83);
        is(17, "note(60)", x.note(60), REFUSED);
        is(17, "note(-1)", x.note(-1), REFUSED);
        is(17, "note(LEAST)", x.note(LEAST), REFUSED);
        x.line(1, PAY, 1, HAND, COOK);
        x.sail(20);
        is(18, "notes()", x.notes(), 100);
        is(17, "note(0)", x.note(0), 83);
        is(17, "note(3)", x.note(3), 1);
        is(17, "note(63)", x.note(63), 1);
        is(17, "note(64)", x.note(64), REFUSED);
        is(17, "note(99)", x.note(99), REFUSED);
        is(17, "note(MOST)", x.note(MOST), REFUSED);
        x.pay(0, 1);
        is(18, "notes()", x.notes(), 1);
        is(17, "note(0)", x.note(0), 1);
        is(17, "note(1), which an earlier call made", x.note(1), REFUSED);
    }

    private static void notesStayWhereTheyShould() {
        WatchBill x = crewOf(10, HAND, MATE);
        x.climb(1, 5);
        x.enlist(HAND, 1);
        x.promote(0);
        x.demote(0);
        x.line(0, PAY, 1, 0, 7);
        x.rest(3);
        x.told(0, 0);
        x.note(0);
        x.notes();
        notesAre(18, x, 42, 12);
        x.toil(9, 1);
        x.toil(0, 101);
        x.pay(0, 1001);
        x.climb(0, 201);
        x.heed(0, 10000);
        x.race(0, 1, 1);
        x.race(1, 1, 21);
        x.due(0, 1, 1);
        x.due(1, 1, -1);
        x.feed(0, 1);
        x.watch(4, 1);
        x.sail(21);
        notesAre(18, x, 42, 12);
        x.line(0, -1, 0, 0, 0);
        x.sail(1);
        notesAre(18, x);
    }
}
