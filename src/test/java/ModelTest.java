import java.util.ArrayList;
import java.util.Arrays;
import java.util.List;
import java.util.Random;

/**
 * Many runs of calls, each answered by WatchBill and by a second telling of the document that is built in
 * another way (a table of ways and of elders, no classes of ranks); all answers, and the states in the end, must agree.
 */
public final class ModelTest {
    private static final int RUNS = 20000;
    /** Those that read the state in the end are some 200 more, within the 512 that an object has. */
    private static final int MOST_CALLS = 300;
    private static final long REFUSED = -1000000L;
    private static final String[] NAMES = {"enlist", "promote", "demote", "toil", "pay", "climb", "heed", "race", "due",
        "feed", "watch", "line", "sail", "rest", "told", "note", "notes"};

    public static void main(String[] args) {
        int wrong = 0;
        for (int run = 0; run < RUNS && wrong < 20; run++) {
            if (!agrees(run)) wrong++;
        }
        System.out.println(wrong == 0 ? "all runs agree with the model" : wrong + " runs do not agree with the model");
        if (wrong != 0) System.exit(1);
    }

    /** The run's number is the seed, so that every run is the same each time. */
    private static boolean agrees(int run) {
        Random random = new Random(run);
        WatchBill bill = new WatchBill();
        Model model = new Model();
        int wildness = run % 3;
        int calls = 10 + random.nextInt(MOST_CALLS - 10);
        for (int i = 0; i < calls; i++) {
            int call = i < 6 ? 0 : random.nextInt(NAMES.length);
            int[] a = argumentsOf(call, random, wildness);
            long got = callBill(bill, call, a);
            long want = model.call(call, a);
            if (got != want) {
                System.out.println("run " + run + ", call " + i + ": " + NAMES[call] + Arrays.toString(a)
                    + " answered " + got + ", due is " + want);
                return false;
            }
        }
        String difference = differenceOf(bill, model);
        if (difference != null) System.out.println("run " + run + " of " + calls + " calls " + difference);
        return difference == null;
    }

    private static String differenceOf(WatchBill bill, Model model) {
        for (int k = -1; k < 13; k++) {
            for (int what = -1; what < 8; what++) {
                if (bill.told(k, what) != model.told(k, what)) return "left told(" + k + ", " + what + ") wrong";
            }
        }
        if (bill.notes() != model.notes.size()) return "left " + bill.notes() + " notes, due are " + model.notes.size();
        for (int i = -1; i < 66; i++) {
            if (bill.note(i) != model.note(i)) return "left note(" + i + ") wrong";
        }
        return null;
    }

    private static int[] argumentsOf(int call, Random random, int wildness) {
        int k = near(random, wildness, 0, 11);
        switch (call) {
            case 0: return new int[] {near(random, wildness, 0, 7), near(random, wildness, 0, 99)};
            case 1: case 2: return new int[] {k};
            case 3: case 9: return new int[] {k, near(random, wildness, 0, 100)};
            case 4: return new int[] {k, near(random, wildness, 0, 1000)};
            case 5: return new int[] {k, near(random, wildness, 0, random.nextBoolean() ? 50 : 200)};
            case 6: return new int[] {k, near(random, wildness, 0, 9999)};
            case 7: return new int[] {k, near(random, wildness, 0, random.nextBoolean() ? 50 : 200), near(random, wildness, 0, 20)};
            case 8: return new int[] {k, near(random, wildness, 0, 1000), near(random, wildness, 0, 9000)};
            case 10: return dutyAndNumber(random, wildness);
            case 11: return lineOf(random, wildness);
            case 12: return new int[] {near(random, wildness, 0, random.nextInt(4) == 0 ? 20 : 2)};
            case 13: return new int[] {near(random, wildness, 0, random.nextInt(4) == 0 ? 1000 : 100)};
            case 14: return new int[] {k, near(random, wildness, 0, 6)};
            case 15: return new int[] {near(random, wildness, 0, 63)};
            default: return new int[] {};
        }
    }

    private static int[] dutyAndNumber(Random random, int wildness) {
        int d = near(random, wildness, 0, 3);
        int bound = d >= 0 && d < 4 ? Model.BOUNDS[d] : 100;
        return new int[] {d, near(random, wildness, 0, bound)};
    }

    private static int[] lineOf(Random random, int wildness) {
        int[] duty = dutyAndNumber(random, wildness);
        if (random.nextInt(6) == 0) duty[0] = -1;
        int low = near(random, wildness, 0, 7);
        int high = random.nextInt(8) == 0 ? near(random, wildness, 0, 7) : low + random.nextInt(Math.max(1, Math.min(8, 8 - Math.max(low, 0))));
        return new int[] {near(random, wildness, 0, 7), duty[0], duty[1], low, high};
    }

    /** Mostly from low to high, its ends more often than by chance; now and then a number beyond them. */
    private static int near(Random random, int wildness, int low, int high) {
        int chance = random.nextInt(40);
        if (chance < wildness) {
            int[] beyond = {low - 1, high + 1, Integer.MIN_VALUE, Integer.MAX_VALUE, -1000, high * 2 + 5};
            return beyond[random.nextInt(beyond.length)];
        }
        if (chance == 38) return low;
        if (chance == 39) return high;
        return low + random.nextInt(high - low + 1);
    }

    private static long callBill(WatchBill x, int call, int[] a) {
        switch (call) {
            case 0: return x.enlist(a[0], a[1]);
            case 1: return x.promote(a[0]);
            case 2: return x.demote(a[0]);
            case 3: return x.toil(a[0], a[1]);
            case 4: return x.pay(a[0], a[1]);
            case 5: return x.climb(a[0], a[1]);
            case 6: return x.heed(a[0], a[1]);
            case 7: return x.race(a[0], a[1], a[2]);
            case 8: return x.due(a[0], a[1], a[2]);
            case 9: return x.feed(a[0], a[1]);
            case 10: return x.watch(a[0], a[1]);
            case 11: return x.line(a[0], a[1], a[2], a[3], a[4]);
            case 12: return x.sail(a[0]);
            case 13: return x.rest(a[0]);
            case 14: return x.told(a[0], a[1]);
            case 15: return x.note(a[0]);
            default: return x.notes();
        }
    }

    /** The document told a second time. */
    private static final class Model {
        static final int[] BOUNDS = {100, 1000, 200, 9999};
        static final int[] ELDERS = {8, 0, 1, 2, 3, 4, 0, 6};
        /** By duty: the ranks that have a way of their own. */
        static final String[] WAYS = {"82456", "0357", "8147", "82356"};

        final List<long[]> members = new ArrayList<>();
        final int[][] plan = new int[8][];
        List<Integer> notes = new ArrayList<>();

        long call(int call, int[] a) {
            if (isRefused(call, a)) return REFUSED;
            if (call >= 3 && call <= 10 || call == 12) notes = new ArrayList<>();
            long[] member = a.length > 0 && a[0] >= 0 && a[0] < members.size() ? members.get(a[0]) : null;
            switch (call) {
                case 0: members.add(new long[] {a[0], a[1], 0, 0}); return members.size() - 1;
                case 1: return member[0] = nextOf((int) member[0]);
                case 2: return member[0] = ELDERS[(int) member[0]];
                case 3: case 5: case 6: return does(a[0], call - 3, a[1]);
                case 4: return paid(a[0], a[1]);
                case 7: return race(a[0], a[1], a[2]);
                case 8: return Math.max(0L, does(a[0], 1, a[1]) - a[2]);
                case 9: return feed(a[0], a[1]);
                case 10: return watch(a[0], a[1]);
                case 11: plan[a[0]] = a[1] == -1 ? null : a.clone(); return 1;
                case 12: return sail(a[0]);
                case 13: for (int k = 0; k < members.size(); k++) tire(k, -a[0]); return members.size();
                case 14: return told(a[0], a[1]);
                case 15: return note(a[0]);
                default: return notes.size();
            }
        }

        boolean isRefused(int call, int[] a) {
            boolean ofMember = call >= 1 && call <= 9 || call == 14;
            if (ofMember && (a[0] < 0 || a[0] >= members.size())) return true;
            int rank = ofMember ? (int) members.get(a[0])[0] : -1;
            switch (call) {
                case 0: return not(a[0], 0, 7) || not(a[1], 0, 99) || members.size() == 12;
                case 1: return nextOf(rank) < 0;
                case 2: return ELDERS[rank] == 8;
                case 3: case 4: case 5: case 6: return not(a[1], 0, BOUNDS[call - 3]);
                case 7: return not(a[1], 0, 200) || not(a[2], 0, 20) || not(rank, 2, 5);
                case 8: return not(a[1], 0, 1000) || a[2] < 0 || not(rank, 1, 7);
                case 9: return not(a[1], 0, 100) || not(rank, 6, 7);
                case 10: return not(a[0], 0, 3) || not(a[1], 0, BOUNDS[a[0]]);
                case 11: return not(a[0], 0, 7) || a[1] != -1 && (not(a[1], 0, 3) || not(a[2], 0, BOUNDS[a[1]])
                    || not(a[3], 0, 7) || not(a[4], a[3], 7));
                case 12: return not(a[0], 0, 20);
                case 13: return not(a[0], 0, 1000);
                default: return false;
            }
        }

        static boolean not(int n, int low, int high) {
            return n < low || n > high;
        }

        /** The least rank whose elder this is, which is SAILOR for a HAND; -1 if there is none. */
        static int nextOf(int rank) {
            for (int r = 0; r < 8; r++) if (ELDERS[r] == rank) return r;
            return -1;
        }

        long told(int k, int what) {
            if (not(k, 0, members.size() - 1) || not(what, 0, 6)) return REFUSED;
            long[] member = members.get(k);
            if (what < 4) return member[what];
            String[] offices = {"2345", "1234567", "67"};
            return offices[what - 4].indexOf((char) ('0' + member[0])) >= 0 ? 1 : 0;
        }

        long note(int i) {
            return i < 0 || i >= 64 || i >= notes.size() ? REFUSED : notes.get(i);
        }

        void tire(int k, int n) {
            long[] member = members.get(k);
            member[2] = Math.min(1000, Math.max(0, member[2] + n));
        }

        long does(int k, int duty, int n) {
            return doesAs((int) members.get(k)[0], k, duty, n);
        }

        /** Looks upwards from a rank for the first that has a way. */
        long doesAs(int from, int k, int duty, int n) {
            int rank = from;
            while (WAYS[duty].indexOf((char) ('0' + rank)) < 0) rank = ELDERS[rank];
            notes.add(10 * rank + duty);
            switch (duty) {
                case 0: return toilsAs(rank, k, n);
                case 1: return paidAs(rank, k, n);
                case 2: return climbsAs(rank, k, n);
                default: return heedsAs(rank, k, n);
            }
        }

        long elder(int rank, int k, int duty, int n) {
            return doesAs(ELDERS[rank], k, duty, n);
        }

        long toilsAs(int rank, int k, int n) {
            long weary = members.get(k)[2];
            if (rank == 8) {
                tire(k, n);
                return Math.max(0, n * (10 + members.get(k)[1]) - weary);
            }
            if (rank == 2) return weary > 500 ? 0 : elder(rank, k, 0, n) + 3 * n;
            if (rank == 4) {
                long one = elder(rank, k, 0, n / 2);
                long two = elder(rank, k, 0, n - n / 2);
                return one + two;
            }
            if (rank == 5) return n <= 40 ? elder(rank, k, 0, n) : elder(rank, k, 0, n / 4) * 4;
            long cooked = elder(rank, k, 0, n);
            tire(k, -(n / 2));
            return cooked;
        }

        long paidAs(int rank, int k, int n) {
            if (rank == 0) return n * (5 + members.get(k)[1] / 10);
            long sum = elder(rank, k, 1, n);
            if (rank == 3) return sum + 2 * n + n * members.stream().filter(m -> m[0] <= 2).count();
            if (rank == 5) return members.get(k)[2] < 300 ? sum + sum : sum;
            return sum + 7 * members.stream().filter(m -> m[2] > 500).count();
        }

        long climbsAs(int rank, int k, int n) {
            if (rank == 8 && n > 10 + members.get(k)[1]) return -1;
            if (rank == 8) {
                tire(k, n);
                return 2 * n;
            }
            if (rank == 1 && n <= 30) {
                tire(k, n / 2);
                return 3 * n;
            }
            long above = elder(rank, k, 2, rank == 7 ? n / 2 : n);
            return rank == 4 && above != -1 ? above + 1 : above;
        }

        long heedsAs(int rank, int k, int n) {
            if (rank == 8) return (31L * n + k) % 1000;
            if (rank == 2) return n % 2 == 1 ? n : 1000 + elder(rank, k, 3, n);
            if (rank == 5) return members.get(k)[2] >= 700 ? -5 : elder(rank, k, 3, n + 1);
            if (rank == 6) return 0 - elder(rank, k, 3, n);
            long sum = elder(rank, k, 3, n);
            for (int i = 0; i < members.size(); i++) {
                if (members.get(i)[0] <= 2) sum += does(i, 3, n);
            }
            return sum;
        }

        long paid(int k, int n) {
            long sum = does(k, 1, n);
            members.get(k)[3] += sum;
            return sum;
        }

        long race(int k, int n, int m) {
            boolean master = members.get(k)[0] == 5;
            long sum = 0;
            for (int left = master ? Math.min(3, m) : m; left > 0; left--) {
                long answer = does(k, 2, n);
                if (answer == -1) break;
                sum += answer;
            }
            return master ? 2 * sum : sum;
        }

        long feed(int k, int n) {
            long meal = does(k, 0, n) / 100;
            for (int i = 0; i < members.size(); i++) if (i != k) tire(i, (int) -meal);
            return meal;
        }

        long watch(int duty, int n) {
            long sum = 0;
            for (int k = 0; k < members.size(); k++) sum += does(k, duty, n);
            return sum;
        }

        long sail(int times) {
            long sum = 0;
            for (int i = 0; i < 8 * times; i++) {
                int[] line = plan[i % 8];
                for (int k = 0; line != null && k < members.size(); k++) {
                    if (not((int) members.get(k)[0], line[3], line[4])) continue;
                    sum += line[1] == 1 ? paid(k, line[2]) : does(k, line[1], line[2]);
                }
            }
            return sum;
        }
    }
}
