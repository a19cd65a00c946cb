public final class AttackGraph {
    public static final int BAD_ARG = -1;
    public static final int FULL = -2;
    public static final int NONE = -4;

    private static final int FACTS = 12;
    private static final int ALL_FACTS = 4095;
    private static final int MAX_GIVEN = 8;
    private static final int MAX_PRICE = 20;
    private static final int MAX_RULES = 14;

    // A price of 0 marks a fact that is not given, since prices begin at 1.
    private final int[] prices = new int[FACTS];

    // Entries from ruleCount on are left over from removed rules and mean nothing.
    private final int[] ruleNeeds = new int[MAX_RULES];
    private final int[] ruleYields = new int[MAX_RULES];
    private int ruleCount;

    private int goalFact;

    public AttackGraph() {
        ruleCount = 0;
        goalFact = 0;
    }

    public int give(int f, int price) {
        if (!isFact(f) || price < 1 || price > MAX_PRICE) {
            return BAD_ARG;
        }
        int before = prices[f];
        if (before == 0 && givenCount() >= MAX_GIVEN) {
            return FULL;
        }
        prices[f] = price;
        return before;
    }

    public int take(int f) {
        if (!isFact(f)) {
            return BAD_ARG;
        }
        int before = prices[f];
        if (before == 0) {
            return NONE;
        }
        prices[f] = 0;
        return before;
    }

    public int rule(int needs, int yield) {
        if (!isSet(needs) || !isFact(yield)) {
            return BAD_ARG;
        }
        if (ruleCount >= MAX_RULES) {
            return FULL;
        }
        int number = ruleCount;
        ruleNeeds[number] = needs;
        ruleYields[number] = yield;
        ruleCount = number + 1;
        return number;
    }

    public int unrule() {
        if (ruleCount <= 0) {
            return NONE;
        }
        ruleCount = ruleCount - 1;
        return ruleCount;
    }

    public int rules() {
        return ruleCount;
    }

    public int goal(int f) {
        if (!isFact(f)) {
            return BAD_ARG;
        }
        int before = goalFact;
        goalFact = f;
        return before;
    }

    public int given() {
        int set = 0;
        for (int f = 0; f < FACTS; f++) {
            if (prices[f] != 0) {
                set = set | (1 << f);
            }
        }
        return set;
    }

    public int reached() {
        int all = given();
        return reachedFrom(all);
    }

    public boolean supports(int set) {
        if (!isSet(set)) {
            return false;
        }
        int all = given();
        return reachesGoal(set & all);
    }

    public int leastSupports() {
        int all = given();
        int count = 0;
        for (int set = 0; set <= ALL_FACTS; set++) {
            if (isSubset(set, all) && isLeastSupport(set)) {
                count++;
            }
        }
        return count;
    }

    public int cheapestSupport() {
        int all = given();
        int least = NONE;
        for (int set = 0; set <= ALL_FACTS; set++) {
            if (isSubset(set, all) && reachesGoal(set)) {
                int cost = costOf(set);
                if (least == NONE || cost < least) {
                    least = cost;
                }
            }
        }
        return least;
    }

    public int cheapestShield() {
        int best = bestShieldHaving(0);
        return best == NONE ? NONE : costOf(best);
    }

    public int shield() {
        return bestShieldHaving(0);
    }

    public int smallestShield() {
        int all = given();
        int least = NONE;
        for (int set = 0; set <= ALL_FACTS; set++) {
            if (isSubset(set, all) && !reachesGoal(all & ~set)) {
                int size = sizeOf(set);
                if (least == NONE || size < least) {
                    least = size;
                }
            }
        }
        return least;
    }

    public int vital() {
        int all = given();
        // More given facts never reach less, so if any set is a support, all of them together are.
        if (!reachesGoal(all)) {
            return 0;
        }
        int common = all;
        for (int set = 0; set <= ALL_FACTS; set++) {
            if (isSubset(set, all) && reachesGoal(set)) {
                common = common & set;
            }
        }
        return common;
    }

    public int useful() {
        int all = given();
        int union = 0;
        for (int set = 0; set <= ALL_FACTS; set++) {
            if (isSubset(set, all) && isLeastSupport(set)) {
                union = union | set;
            }
        }
        return union;
    }

    public int shieldWith(int f) {
        if (!isFact(f)) {
            return BAD_ARG;
        }
        if (prices[f] == 0) {
            return NONE;
        }
        int best = bestShieldHaving(1 << f);
        return best == NONE ? NONE : costOf(best);
    }

    private static boolean isFact(int f) {
        return f >= 0 && f < FACTS;
    }

    private static boolean isSet(int set) {
        return set >= 0 && set <= ALL_FACTS;
    }

    private static boolean isSubset(int part, int whole) {
        return (part & ~whole) == 0;
    }

    private static boolean has(int set, int f) {
        return ((set >> f) & 1) == 1;
    }

    private static int sizeOf(int set) {
        int size = 0;
        for (int f = 0; f < FACTS; f++) {
            if (has(set, f)) {
                size++;
            }
        }
        return size;
    }

    private int costOf(int set) {
        int cost = 0;
        for (int f = 0; f < FACTS; f++) {
            if (has(set, f)) {
                cost += prices[f];
            }
        }
        return cost;
    }

    private int givenCount() {
        int all = given();
        return sizeOf(all);
    }

    private int reachedFrom(int start) {
        int set = start;
        // Every round that goes on adds a fact, so as many rounds as there are facts are enough.
        for (int round = 0; round < FACTS; round++) {
            int before = set;
            for (int r = 0; r < ruleCount && r < MAX_RULES; r++) {
                if (isSubset(ruleNeeds[r], set)) {
                    set = set | (1 << ruleYields[r]);
                }
            }
            if (set == before) {
                break;
            }
        }
        return set;
    }

    private boolean reachesGoal(int start) {
        int end = reachedFrom(start);
        return has(end, goalFact);
    }

    private boolean isLeastSupport(int set) {
        if (!reachesGoal(set)) {
            return false;
        }
        // More facts never reach less, so if some smaller subset is a support, one that lacks a single fact is too.
        for (int f = 0; f < FACTS; f++) {
            if (has(set, f) && reachesGoal(set & ~(1 << f))) {
                return false;
            }
        }
        return true;
    }

    // Sets are tried from the least number up and only a lower cost wins, so of equal costs the least number stays.
    private int bestShieldHaving(int wanted) {
        int all = given();
        int best = NONE;
        int least = 0;
        for (int set = 0; set <= ALL_FACTS; set++) {
            if (isSubset(wanted, set) && isSubset(set, all) && !reachesGoal(all & ~set)) {
                int cost = costOf(set);
                if (best == NONE || cost < least) {
                    best = set;
                    least = cost;
                }
            }
        }
        return best;
    }
}
