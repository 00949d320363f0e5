/**
 * The bill of a ship's watches. Each rank is a class whose superclass is its ELDER, so that a
 * duty that a rank has no WAY of its own for is inherited, and "ELDER of n" is a call of super.
 * The overriding methods bear no annotation, since LANGUAGE.md lists none.
 */
public final class WatchBill {
    public static final int REFUSED = -1000000;

    private static final int HAND = 0;
    private static final int SAILOR = 1;
    private static final int TOPMAN = 2;
    private static final int BOSUN = 3;
    private static final int MATE = 4;
    private static final int MASTER = 5;
    private static final int COOK = 6;
    private static final int SURGEON = 7;
    private static final int SOUL = 8;

    private static final int TOIL = 0;
    private static final int PAY = 1;
    private static final int CLIMB = 2;
    private static final int HEED = 3;

    private static final int EMPTY = -1;
    private static final int LINES = 8;
    private static final int MOST_MEMBERS = 12;
    private static final int MOST_SKILL = 99;
    private static final int MOST_WEARY = 1000;
    private static final int MOST_TIMES = 20;
    private static final int KEPT_NOTES = 64;
    private static final int CANNOT_CLIMB = -1;

    private final Crew crew;
    private final Soul[] ranks;
    private final int[] lineDuty;
    private final int[] lineNumber;
    private final int[] lineLow;
    private final int[] lineHigh;

    public WatchBill() {
        crew = new Crew();
        ranks = new Soul[] {
            new Hand(), new Sailor(), new Topman(), new Bosun(),
            new Mate(), new Master(), new Cook(), new Surgeon()
        };
        lineDuty = new int[LINES];
        lineNumber = new int[LINES];
        lineLow = new int[LINES];
        lineHigh = new int[LINES];
        for (int i = 0; i < LINES; i++) {
            lineDuty[i] = EMPTY;
        }
    }

    public int enlist(int rank, int skill) {
        if (!isRank(rank) || skill < 0 || skill > MOST_SKILL || crew.count >= MOST_MEMBERS) {
            return REFUSED;
        }
        return crew.add(skill, rank, ranks[rank]);
    }

    public int promote(int k) {
        Member member = crew.member(k);
        if (member == null || member.rank == MASTER || member.rank == SURGEON) {
            return REFUSED;
        }
        // The ranks of each branch are numbered upwards, so the next number is the next rank.
        return giveRank(member, member.rank + 1);
    }

    public int demote(int k) {
        Member member = crew.member(k);
        if (member == null || member.rank == HAND) {
            return REFUSED;
        }
        return giveRank(member, member.rank == COOK ? HAND : member.rank - 1);
    }

    public long toil(int k, int n) {
        Member member = crew.member(k);
        if (member == null || isBeyondBound(TOIL, n)) {
            return REFUSED;
        }
        crew.forgetNotes();
        return member.ways.toilWay(crew, member, n);
    }

    public long pay(int k, int n) {
        Member member = crew.member(k);
        if (member == null || isBeyondBound(PAY, n)) {
            return REFUSED;
        }
        crew.forgetNotes();
        long paid = member.ways.payWay(crew, member, n);
        member.purse += paid;
        return paid;
    }

    public int climb(int k, int n) {
        Member member = crew.member(k);
        if (member == null || isBeyondBound(CLIMB, n)) {
            return REFUSED;
        }
        crew.forgetNotes();
        return member.ways.climbWay(crew, member, n);
    }

    public int heed(int k, int n) {
        Member member = crew.member(k);
        if (member == null || isBeyondBound(HEED, n)) {
            return REFUSED;
        }
        crew.forgetNotes();
        return member.ways.heedWay(crew, member, n);
    }

    public int race(int k, int n, int m) {
        Member member = crew.member(k);
        if (member == null || !member.isClimber() || isBeyondBound(CLIMB, n) || !isTimes(m)) {
            return REFUSED;
        }
        crew.forgetNotes();
        return member.ways.raceWay(crew, member, n, m);
    }

    public long due(int k, int n, int x) {
        Member member = crew.member(k);
        if (member == null || !member.isPayee() || isBeyondBound(PAY, n) || x < 0) {
            return REFUSED;
        }
        crew.forgetNotes();
        long left = member.ways.payWay(crew, member, n) - x;
        return left < 0 ? 0 : left;
    }

    public int feed(int k, int n) {
        Member carer = crew.member(k);
        if (carer == null || !carer.isCarer() || isBeyondBound(TOIL, n)) {
            return REFUSED;
        }
        crew.forgetNotes();
        int meal = (int) (carer.ways.toilWay(crew, carer, n) / 100);
        for (Member other = crew.first; other != null; other = other.next) {
            if (other != carer) {
                other.tire(-meal);
            }
        }
        return meal;
    }

    public long watch(int d, int n) {
        if (!isDuty(d) || isBeyondBound(d, n)) {
            return REFUSED;
        }
        crew.forgetNotes();
        long sum = 0;
        for (Member member = crew.first; member != null; member = member.next) {
            sum += doDuty(member, d, n);
        }
        return sum;
    }

    public int line(int i, int d, int n, int low, int high) {
        if (i < 0 || i >= LINES) {
            return REFUSED;
        }
        if (d == EMPTY) {
            lineDuty[i] = EMPTY;
            return 1;
        }
        if (!isDuty(d) || isBeyondBound(d, n) || !isRank(low) || !isRank(high) || low > high) {
            return REFUSED;
        }
        lineDuty[i] = d;
        lineNumber[i] = n;
        lineLow[i] = low;
        lineHigh[i] = high;
        return 1;
    }

    public long sail(int t) {
        if (!isTimes(t)) {
            return REFUSED;
        }
        crew.forgetNotes();
        long sum = 0;
        for (int time = 0; time < t; time++) {
            for (int i = 0; i < LINES; i++) {
                if (lineDuty[i] != EMPTY) {
                    sum += sailLine(lineDuty[i], lineNumber[i], lineLow[i], lineHigh[i]);
                }
            }
        }
        return sum;
    }

    public int rest(int n) {
        if (n < 0 || n > MOST_WEARY) {
            return REFUSED;
        }
        for (Member member = crew.first; member != null; member = member.next) {
            member.tire(-n);
        }
        return crew.count;
    }

    public long told(int k, int what) {
        Member member = crew.member(k);
        if (member == null) {
            return REFUSED;
        }
        switch (what) {
            case 0:
                return member.rank;
            case 1:
                return member.skill;
            case 2:
                return member.weary;
            case 3:
                return member.purse;
            case 4:
                return member.isClimber() ? 1 : 0;
            case 5:
                return member.isPayee() ? 1 : 0;
            case 6:
                return member.isCarer() ? 1 : 0;
            default:
                return REFUSED;
        }
    }

    public int note(int i) {
        if (i < 0 || i >= crew.noted || i >= KEPT_NOTES) {
            return REFUSED;
        }
        return crew.kept[i];
    }

    public int notes() {
        return crew.noted;
    }

    private int giveRank(Member member, int rank) {
        if (!isRank(rank)) {
            return REFUSED;
        }
        member.rank = rank;
        member.ways = ranks[rank];
        return rank;
    }

    private long sailLine(int duty, int n, int low, int high) {
        long sum = 0;
        for (Member member = crew.first; member != null; member = member.next) {
            if (member.rank >= low && member.rank <= high) {
                long answer = doDuty(member, duty, n);
                if (duty == PAY) {
                    member.purse += answer;
                }
                sum += answer;
            }
        }
        return sum;
    }

    private long doDuty(Member member, int duty, int n) {
        switch (duty) {
            case TOIL:
                return member.ways.toilWay(crew, member, n);
            case PAY:
                return member.ways.payWay(crew, member, n);
            case CLIMB:
                return member.ways.climbWay(crew, member, n);
            default:
                return member.ways.heedWay(crew, member, n);
        }
    }

    private static boolean isRank(int rank) {
        return rank >= HAND && rank <= SURGEON;
    }

    private static boolean isDuty(int duty) {
        return duty >= TOIL && duty <= HEED;
    }

    private static boolean isTimes(int times) {
        return times >= 0 && times <= MOST_TIMES;
    }

    private static boolean isBeyondBound(int duty, int n) {
        return n < 0 || n > boundOf(duty);
    }

    private static int boundOf(int duty) {
        switch (duty) {
            case TOIL:
                return 100;
            case PAY:
                return 1000;
            case CLIMB:
                return 200;
            default:
                return 9999;
        }
    }

    /** The members, chained in the order of their numbers, and the notes of the latest call. */
    private static final class Crew {
        Member first;
        Member last;
        int count;
        final int[] kept = new int[KEPT_NOTES];
        int noted;

        int add(int skill, int rank, Soul ways) {
            Member member = new Member(count, skill, rank, ways);
            if (last == null) {
                first = member;
            } else {
                last.next = member;
            }
            last = member;
            count++;
            return member.number;
        }

        Member member(int k) {
            for (Member member = first; member != null; member = member.next) {
                if (member.number == k) {
                    return member;
                }
            }
            return null;
        }

        void forgetNotes() {
            noted = 0;
        }

        void noteWay(int rank, int duty) {
            if (noted < KEPT_NOTES) {
                kept[noted] = 10 * rank + duty;
            }
            noted++;
        }
    }

    private static final class Member {
        final int number;
        final int skill;
        int rank;
        Soul ways;
        int weary;
        long purse;
        Member next;

        Member(int number, int skill, int rank, Soul ways) {
            this.number = number;
            this.skill = skill;
            this.rank = rank;
            this.ways = ways;
        }

        void tire(int n) {
            int wearier = weary + n;
            if (wearier < 0) {
                wearier = 0;
            }
            weary = wearier > MOST_WEARY ? MOST_WEARY : wearier;
        }

        /** What a BOSUN pays for and calls to heed: RANKS 0 .. 2. */
        boolean isBelowBosun() {
            return rank <= TOPMAN;
        }

        boolean isClimber() {
            return rank >= TOPMAN && rank <= MASTER;
        }

        boolean isPayee() {
            return rank >= SAILOR;
        }

        boolean isCarer() {
            return rank == COOK || rank == SURGEON;
        }
    }

    private abstract static class Soul {
        long toilWay(Crew crew, Member member, int n) {
            crew.noteWay(SOUL, TOIL);
            long done = (long) n * (10 + member.skill) - member.weary;
            member.tire(n);
            return done < 0 ? 0 : done;
        }

        abstract long payWay(Crew crew, Member member, int n);

        int climbWay(Crew crew, Member member, int n) {
            crew.noteWay(SOUL, CLIMB);
            if (n > 10 + member.skill) {
                return CANNOT_CLIMB;
            }
            member.tire(n);
            return 2 * n;
        }

        int heedWay(Crew crew, Member member, int n) {
            crew.noteWay(SOUL, HEED);
            return (31 * n + member.number) % 1000;
        }

        int raceWay(Crew crew, Member member, int n, int times) {
            int sum = 0;
            for (int done = 0; done < times; done++) {
                int climbed = climbWay(crew, member, n);
                if (climbed == CANNOT_CLIMB) {
                    return sum;
                }
                sum += climbed;
            }
            return sum;
        }
    }

    private static class Hand extends Soul {
        long payWay(Crew crew, Member member, int n) {
            crew.noteWay(HAND, PAY);
            return (long) n * (5 + member.skill / 10);
        }
    }

    private static class Sailor extends Hand {
        int climbWay(Crew crew, Member member, int n) {
            crew.noteWay(SAILOR, CLIMB);
            if (n > 30) {
                return super.climbWay(crew, member, n);
            }
            member.tire(n / 2);
            return 3 * n;
        }
    }

    private static class Topman extends Sailor {
        long toilWay(Crew crew, Member member, int n) {
            crew.noteWay(TOPMAN, TOIL);
            if (member.weary > 500) {
                return 0;
            }
            return super.toilWay(crew, member, n) + 3L * n;
        }

        int heedWay(Crew crew, Member member, int n) {
            crew.noteWay(TOPMAN, HEED);
            if (n % 2 != 0) {
                return n;
            }
            return super.heedWay(crew, member, n) + 1000;
        }
    }

    private static class Bosun extends Topman {
        long payWay(Crew crew, Member member, int n) {
            crew.noteWay(BOSUN, PAY);
            long paid = super.payWay(crew, member, n) + 2L * n;
            for (Member other = crew.first; other != null; other = other.next) {
                if (other.isBelowBosun()) {
                    paid += n;
                }
            }
            return paid;
        }

        // Only ranks below this one are called, none of which calls others: it ends one level down.
        int heedWay(Crew crew, Member member, int n) {
            crew.noteWay(BOSUN, HEED);
            int sum = super.heedWay(crew, member, n);
            for (Member other = crew.first; other != null; other = other.next) {
                if (other.isBelowBosun()) {
                    sum += other.ways.heedWay(crew, other, n);
                }
            }
            return sum;
        }
    }

    private static class Mate extends Bosun {
        long toilWay(Crew crew, Member member, int n) {
            crew.noteWay(MATE, TOIL);
            int half = n / 2;
            long before = super.toilWay(crew, member, half);
            return before + super.toilWay(crew, member, n - half);
        }

        int climbWay(Crew crew, Member member, int n) {
            crew.noteWay(MATE, CLIMB);
            int climbed = super.climbWay(crew, member, n);
            return climbed == CANNOT_CLIMB ? CANNOT_CLIMB : climbed + 1;
        }
    }

    private static final class Master extends Mate {
        long toilWay(Crew crew, Member member, int n) {
            crew.noteWay(MASTER, TOIL);
            if (n <= 40) {
                return super.toilWay(crew, member, n);
            }
            return 4 * super.toilWay(crew, member, n / 4);
        }

        long payWay(Crew crew, Member member, int n) {
            crew.noteWay(MASTER, PAY);
            long paid = super.payWay(crew, member, n);
            return member.weary < 300 ? 2 * paid : paid;
        }

        int heedWay(Crew crew, Member member, int n) {
            crew.noteWay(MASTER, HEED);
            if (member.weary >= 700) {
                return -5;
            }
            return super.heedWay(crew, member, n + 1);
        }

        int raceWay(Crew crew, Member member, int n, int times) {
            return 2 * super.raceWay(crew, member, n, times < 3 ? times : 3);
        }
    }

    private static class Cook extends Hand {
        long toilWay(Crew crew, Member member, int n) {
            crew.noteWay(COOK, TOIL);
            long done = super.toilWay(crew, member, n);
            member.tire(-(n / 2));
            return done;
        }

        int heedWay(Crew crew, Member member, int n) {
            crew.noteWay(COOK, HEED);
            return -super.heedWay(crew, member, n);
        }
    }

    private static final class Surgeon extends Cook {
        long payWay(Crew crew, Member member, int n) {
            crew.noteWay(SURGEON, PAY);
            long paid = super.payWay(crew, member, n);
            for (Member other = crew.first; other != null; other = other.next) {
                if (other.weary > 500) {
                    paid += 7;
                }
            }
            return paid;
        }

        int climbWay(Crew crew, Member member, int n) {
            crew.noteWay(SURGEON, CLIMB);
            return super.climbWay(crew, member, n / 2);
        }
    }
}
