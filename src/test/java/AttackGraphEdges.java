// For each sentence of the document that names a boundary case a test of its own, which bears the sentence.
public final class AttackGraphEdges {
    private static final int BAD_ARG = -1;
    private static final int FULL = -2;
    private static final int NONE = -4;

    private static final int LEAST = Integer.MIN_VALUE;
    private static final int GREATEST = Integer.MAX_VALUE;

    // Beside the neighbours of the range: numbers whose low 4, 5, 8 or 16 bits, or all but the sign, are a fact.
    private static final int[] NO_FACTS = {-1, 12, LEAST, GREATEST, -2, 13, 15, 16, 27, 31, 32, 43, 64, 255, 256, 267,
        65536, 65547, -16, -20, -21, -32, -256, -65536, LEAST + 1, LEAST + 11, GREATEST - 1};
    private static final int[] NO_PRICES = {0, 21, LEAST, GREATEST, -1, -20, 22, 31, 32, 33, 52, 256, 257, 276, 65537,
        65556, -236, -255, -65535, LEAST + 1, LEAST + 20, GREATEST - 1};
    private static final int[] NO_SETS = {-1, 4096, LEAST, GREATEST, -2, 4097, 8191, 8192, 12287, 65536, 65537, 69631,
        -4095, -4096, -4097, -65536, -65535, LEAST + 1, LEAST + 4095, GREATEST - 1};

    private static String sentence = "";
    private static Graph latest = null;
    private static int tests = 0;
    private static int failed = 0;
    private static int wrong = 0;

    // Keeps the calls for the report, and their number, since after the 512th nothing is promised.
    private static final class Graph {
        private final AttackGraph graph = new AttackGraph();
        private final StringBuilder calls = new StringBuilder();
        private int count = 0;

        private AttackGraph next(String call) {
            count++;
            calls.append(count == 1 ? "" : ", ").append(call);
            latest = this;
            if (count > 512) {
                fault("the test itself makes more than 512 calls");
            }
            return graph;
        }

        int give(int f, int price) {
            return next("give(" + f + ", " + price + ")").give(f, price);
        }

        int take(int f) {
            return next("take(" + f + ")").take(f);
        }

        int rule(int needs, int yield) {
            return next("rule(" + needs + ", " + yield + ")").rule(needs, yield);
        }

        int unrule() {
            return next("unrule()").unrule();
        }

        int rules() {
            return next("rules()").rules();
        }

        int goal(int f) {
            return next("goal(" + f + ")").goal(f);
        }

        int given() {
            return next("given()").given();
        }

        int reached() {
            return next("reached()").reached();
        }

        boolean supports(int set) {
            return next("supports(" + set + ")").supports(set);
        }

        int leastSupports() {
            return next("leastSupports()").leastSupports();
        }

        int cheapestSupport() {
            return next("cheapestSupport()").cheapestSupport();
        }

        int cheapestShield() {
            return next("cheapestShield()").cheapestShield();
        }

        int shield() {
            return next("shield()").shield();
        }

        int smallestShield() {
            return next("smallestShield()").smallestShield();
        }

        int vital() {
            return next("vital()").vital();
        }

        int useful() {
            return next("useful()").useful();
        }

        int shieldWith(int f) {
            return next("shieldWith(" + f + ")").shieldWith(f);
        }
    }

    private static void fault(String what) {
        wrong++;
        System.out.println("[" + sentence + "] " + what);
    }

    // Looks at the answer of the latest call.
    private static void due(long got, long want) {
        if (got != want) {
            fault("the last call answered " + got + ", due is " + want + ": " + latest.calls);
        }
    }

    private static void due(boolean got, boolean want) {
        due(got ? 1L : 0L, want ? 1L : 0L);
    }

    private static void test(String words, Runnable body) {
        sentence = words;
        int before = wrong;
        try {
            body.run();
        } catch (RuntimeException | StackOverflowError e) {
            fault("threw " + e + (latest == null ? "" : ": " + latest.calls));
        }
        tests++;
        if (wrong != before) {
            failed++;
        }
    }

    private static int set(int... facts) {
        int set = 0;
        for (int f : facts) {
            set |= 1 << f;
        }
        return set;
    }

    // Goal 0 from facts 1 and 2 together, or from 3 alone.
    private static Graph twoWays() {
        Graph x = new Graph();
        x.give(1, 3);
        x.give(2, 4);
        x.give(3, 6);
        x.rule(set(1, 2), 4);
        x.rule(set(4), 0);
        x.rule(set(3), 0);
        return x;
    }

    private static Graph withGiven(int count, int price) {
        Graph x = new Graph();
        for (int f = 0; f < count; f++) {
            x.give(f, price);
        }
        return x;
    }

    // The rules have no effect, since nothing is given.
    private static Graph withRules(int count) {
        Graph x = new Graph();
        for (int r = 0; r < count; r++) {
            x.rule(set(10), 9);
        }
        return x;
    }

    // Goal 0 from the facts 4 to 11 all together.
    private static Graph allOfEight(int price) {
        Graph x = new Graph();
        for (int f = 4; f < 12; f++) {
            x.give(f, price);
        }
        x.rule(4080, 0);
        return x;
    }

    // Goal 0 from each of the facts 4 to 11 alone.
    private static Graph anyOfEight(int price) {
        Graph x = new Graph();
        for (int f = 4; f < 12; f++) {
            x.give(f, price);
            x.rule(set(f), 0);
        }
        return x;
    }

    // Goal 0 can be reached from nothing; 1 and 2 are given and would also do, each alone.
    private static Graph fromNothing() {
        Graph x = new Graph();
        x.give(1, 2);
        x.give(2, 3);
        x.rule(set(1), 0);
        x.rule(set(2), 0);
        x.rule(0, 0);
        return x;
    }

    // Goal 0 is out of reach, though 1 and 2 are given: a rule would need 3 too.
    private static Graph outOfReach() {
        Graph x = new Graph();
        x.give(1, 2);
        x.give(2, 3);
        x.rule(set(1, 2, 3), 0);
        return x;
    }

    // ---- What it is

    // Calls that leave all as it was, until the object has had so many.
    private static Graph worn(int calls) {
        Graph x = twoWays();
        while (x.count + 4 <= calls) {
            x.take(2);
            x.give(2, 4);
            x.rule(set(1), 0);
            x.unrule();
        }
        while (x.count < calls) {
            x.goal(0);
        }
        return x;
    }

    private static void upTo512Calls() {
        due(worn(511).give(11, 20), 0);
        due(worn(511).give(12, 20), BAD_ARG);
        due(worn(511).take(2), 4);
        due(worn(511).take(4), NONE);
        due(worn(511).rule(4095, 11), 3);
        due(worn(511).unrule(), 2);
        due(worn(511).rules(), 3);
        due(worn(511).goal(11), 0);
        due(worn(511).given(), set(1, 2, 3));
        due(worn(511).reached(), set(0, 1, 2, 3, 4));
        due(worn(511).supports(set(1, 2)), true);
        due(worn(511).supports(set(1)), false);
        due(worn(511).leastSupports(), 2);
        due(worn(511).cheapestSupport(), 6);
        due(worn(511).cheapestShield(), 9);
        due(worn(511).shield(), set(1, 3));
        due(worn(511).smallestShield(), 2);
        due(worn(511).vital(), 0);
        due(worn(511).useful(), set(1, 2, 3));
        due(worn(511).shieldWith(2), 10);
        Graph x = worn(510);
        x.take(3);
        due(x.vital(), set(1, 2));
    }

    // ---- Terms

    private static void facts0To11() {
        for (int f = 0; f < 12; f++) {
            Graph x = new Graph();
            due(x.give(f, 1), 0);
            due(x.shieldWith(f), 1);
            due(x.rule(0, f), 0);
            due(x.goal(f), 0);
            due(x.goal(0), f);
            due(x.take(f), 1);
        }
        for (int f : new int[] {-1, 12}) {
            Graph x = withGiven(7, 1);
            due(x.give(f, 1), BAD_ARG);
            due(x.shieldWith(f), BAD_ARG);
            due(x.rule(0, f), BAD_ARG);
            due(x.goal(f), BAD_ARG);
            due(x.take(f), BAD_ARG);
        }
    }

    private static void prices1To20() {
        for (int price = 1; price <= 20; price++) {
            Graph x = new Graph();
            due(x.give(0, price), 0);
            due(x.cheapestSupport(), price);
            due(x.cheapestShield(), price);
            due(x.shieldWith(0), price);
            due(x.take(0), price);
        }
        Graph x = new Graph();
        due(x.give(0, 0), BAD_ARG);
        due(x.give(0, 21), BAD_ARG);
        due(x.given(), 0);
    }

    private static void rulesInOrderAtMost14() {
        Graph x = new Graph();
        for (int r = 0; r < 14; r++) {
            due(x.rule(set(r % 12), 0), r);
        }
        due(x.rule(set(0), 0), FULL);
        due(x.rules(), 14);
        x.unrule();
        due(x.rule(set(0), 0), 13);
        due(x.rule(set(0), 0), FULL);
        // The same rule once more is still a rule of its own.
        Graph y = new Graph();
        due(y.rule(set(1), 0), 0);
        due(y.rule(set(1), 0), 1);
    }

    private static void needsAndYield() {
        for (int f = 0; f < 12; f++) {
            Graph own = new Graph();
            own.rule(set(f), f);
            due(own.reached(), 0);
            own.give(f, 1);
            due(own.reached(), set(f));
            Graph one = new Graph();
            one.rule(0, f);
            due(one.reached(), set(f));
        }
        // Eleven needs, of which eight are given and three come from other rules, and the twelfth fact as the yield.
        for (int missing = 0; missing < 8; missing++) {
            Graph x = withGiven(8, 1);
            x.rule(0, 8);
            x.rule(0, 9);
            x.rule(0, 10);
            x.rule(2047, 11);
            due(x.reached(), 4095);
            x.take(missing);
            due(x.reached(), 2047 - set(missing));
        }
        Graph whole = withGiven(8, 1);
        whole.rule(4095, 11);
        due(whole.reached(), 255);
    }

    private static void setsAreNumbers() {
        for (int f = 0; f < 12; f++) {
            Graph x = new Graph();
            x.give(f, 1);
            x.goal(f);
            due(x.given(), 1 << f);
            due(x.reached(), 1 << f);
            due(x.shield(), 1 << f);
            due(x.vital(), 1 << f);
            due(x.useful(), 1 << f);
            due(x.supports(1 << f), true);
            due(x.supports(4095 - (1 << f)), false);
            int other = (f + 1) % 12;
            x.rule(1 << f, other);
            due(x.reached(), (1 << f) + (1 << other));
        }
        Graph none = new Graph();
        due(none.given(), 0);
        due(none.reached(), 0);
        for (int f = 0; f < 12; f++) {
            none.rule(0, f);
        }
        due(none.reached(), 4095);
        due(none.supports(4095), true);
        due(none.supports(0), true);
    }

    private static void reachedIsTheLeastSet() {
        Graph noRule = withGiven(8, 1);
        due(noRule.reached(), 255);
        Graph circle = new Graph();
        for (int f = 0; f < 12; f++) {
            circle.rule(set(f), (f + 1) % 12);
        }
        due(circle.reached(), 0);
        for (int f = 0; f < 12; f++) {
            circle.give(f, 1);
            due(circle.reached(), 4095);
            circle.take(f);
        }
        due(circle.reached(), 0);
    }

    private static void reachedInManySteps() {
        // Twelve steps, each by a rule with a lower number than the one of the step before.
        Graph down = new Graph();
        for (int f = 0; f < 11; f++) {
            down.rule(set(f + 1), f);
        }
        due(down.reached(), 0);
        down.rule(0, 11);
        due(down.reached(), 4095);
        due(down.supports(0), true);
        down.unrule();
        down.give(11, 1);
        due(down.reached(), 4095);
        down.take(11);
        down.give(10, 1);
        due(down.reached(), 2047);
        // The same way up, by rules in the order of the steps.
        Graph up = new Graph();
        up.rule(0, 0);
        for (int f = 1; f < 12; f++) {
            up.rule(set(f - 1), f);
        }
        due(up.reached(), 4095);
        // Each step needs all the facts before it.
        Graph wide = new Graph();
        for (int f = 11; f >= 0; f--) {
            wide.rule((1 << f) - 1, f);
        }
        due(wide.reached(), 4095);
    }

    private static void noNeedsYieldAlways() {
        Graph x = new Graph();
        x.rule(0, 11);
        due(x.reached(), set(11));
        for (int f = 0; f < 8; f++) {
            x.give(f, 1);
        }
        due(x.reached(), set(11) + 255);
        x.goal(11);
        due(x.supports(0), true);
        x.unrule();
        due(x.reached(), 255);
        due(x.supports(0), false);
    }

    private static void goal0AtFirst() {
        due(new Graph().goal(0), 0);
        due(new Graph().goal(11), 0);
        Graph x = new Graph();
        x.give(0, 7);
        due(x.supports(set(0)), true);
        due(x.shield(), set(0));
        Graph y = new Graph();
        y.give(1, 7);
        due(y.supports(set(1)), false);
    }

    private static void supportsAreSubsetsOfTheGiven() {
        // Nothing given: the empty set is the one subset.
        Graph none = new Graph();
        due(none.leastSupports(), 0);
        none.rule(0, 0);
        due(none.leastSupports(), 1);
        due(none.cheapestSupport(), 0);
        // The goal itself is given.
        Graph itself = new Graph();
        itself.give(0, 5);
        due(itself.leastSupports(), 1);
        due(itself.cheapestSupport(), 5);
        due(itself.vital(), set(0));
        // A fact that isn't given helps no subset.
        Graph other = new Graph();
        other.give(1, 5);
        other.rule(set(2), 0);
        due(other.leastSupports(), 0);
        other.give(2, 6);
        due(other.leastSupports(), 1);
        due(other.cheapestSupport(), 6);
        due(other.useful(), set(2));
    }

    private static void leastHasNoSmallerSupport() {
        // 1 to 8 together, then one fact fewer with each rule, at last none.
        Graph x = new Graph();
        for (int f = 1; f <= 8; f++) {
            x.give(f, 1);
        }
        due(x.leastSupports(), 0);
        int needs = 510;
        for (int f = 8; f >= 1; f--) {
            x.rule(needs, 0);
            due(x.leastSupports(), 1);
            due(x.useful(), needs);
            needs -= set(f);
        }
        x.rule(0, 0);
        due(x.leastSupports(), 1);
        due(x.useful(), 0);
        // The smaller subset may lack more than one fact at once: {1} is enough, so {1, 2, 3} isn't least.
        Graph y = new Graph();
        y.give(1, 1);
        y.give(2, 1);
        y.give(3, 1);
        y.rule(set(1, 2, 3), 0);
        y.rule(set(1), 0);
        due(y.leastSupports(), 1);
        due(y.useful(), set(1));
        // Sets of different sizes may both be least.
        y.unrule();
        y.unrule();
        y.rule(set(1, 2), 0);
        y.rule(set(3), 0);
        due(y.leastSupports(), 2);
        due(y.useful(), set(1, 2, 3));
    }

    private static void shieldsFromNoneToAll() {
        Graph none = outOfReach();
        due(none.shield(), 0);
        due(none.smallestShield(), 0);
        due(none.cheapestShield(), 0);
        Graph all = anyOfEight(1);
        due(all.shield(), 4080);
        due(all.smallestShield(), 8);
        due(all.cheapestShield(), 8);
        // Only the given facts can be taken away: 4 is between the given ones and the goal, but no shield has it.
        Graph middle = new Graph();
        middle.give(1, 5);
        middle.give(2, 6);
        middle.rule(set(1), 4);
        middle.rule(set(2), 4);
        middle.rule(set(4), 0);
        due(middle.shield(), set(1, 2));
        due(middle.smallestShield(), 2);
        due(middle.shieldWith(4), NONE);
    }

    private static void costsFromNoneToAll() {
        due(fromNothing().cheapestSupport(), 0);
        due(outOfReach().cheapestShield(), 0);
        for (int price : new int[] {1, 20}) {
            due(allOfEight(price).cheapestSupport(), 8 * price);
            due(allOfEight(price).cheapestShield(), price);
            due(anyOfEight(price).cheapestSupport(), price);
            due(anyOfEight(price).cheapestShield(), 8 * price);
            due(anyOfEight(price).shieldWith(11), 8 * price);
        }
        Graph mixed = allOfEight(20);
        for (int f = 4; f < 12; f++) {
            mixed.give(f, f);
        }
        due(mixed.cheapestSupport(), 60);
    }

    private static void atMost8Given() {
        // Whichever four facts are left out: the first four, the last four, and between.
        for (int first = 0; first < 12; first++) {
            Graph x = new Graph();
            for (int k = 0; k < 8; k++) {
                due(x.give((first + k) % 12, 1), 0);
            }
            int given = x.given();
            for (int k = 8; k < 12; k++) {
                due(x.give((first + k) % 12, 1), FULL);
            }
            due(x.given(), given);
            due(Integer.bitCount(given), 8);
            due(x.take(first), 1);
            due(x.give((first + 8) % 12, 1), 0);
            due(x.give(first, 1), FULL);
        }
    }

    private static void badArg() {
        Graph x = twoWays();
        due(x.give(12, 1), AttackGraph.BAD_ARG);
        due(AttackGraph.BAD_ARG, -1);
    }

    private static void full() {
        Graph x = withGiven(8, 1);
        due(x.give(8, 1), AttackGraph.FULL);
        due(withRules(14).rule(0, 0), AttackGraph.FULL);
        due(AttackGraph.FULL, -2);
    }

    private static void none() {
        Graph x = twoWays();
        due(x.take(4), AttackGraph.NONE);
        due(new Graph().unrule(), AttackGraph.NONE);
        due(AttackGraph.NONE, -4);
    }

    // ---- Promise 1

    private static void aNewObject() {
        due(new Graph().given(), 0);
        due(new Graph().rules(), 0);
        due(new Graph().unrule(), NONE);
        due(new Graph().reached(), 0);
        due(new Graph().supports(0), false);
        due(new Graph().supports(4095), false);
        due(new Graph().leastSupports(), 0);
        due(new Graph().cheapestSupport(), NONE);
        due(new Graph().cheapestShield(), 0);
        due(new Graph().shield(), 0);
        due(new Graph().smallestShield(), 0);
        due(new Graph().vital(), 0);
        due(new Graph().useful(), 0);
        for (int f = 0; f < 12; f++) {
            due(new Graph().take(f), NONE);
            due(new Graph().shieldWith(f), NONE);
            due(new Graph().give(f, 20), 0);
            due(new Graph().rule(4095, f), 0);
        }
    }

    private static void aNewObjectBesideOthers() {
        Graph old = anyOfEight(20);
        old.goal(4);
        Graph x = new Graph();
        due(x.given(), 0);
        due(x.rules(), 0);
        due(x.goal(7), 0);
        x.give(11, 1);
        x.rule(0, 11);
        due(old.given(), 4080);
        due(old.rules(), 8);
        due(old.goal(0), 4);
        due(old.take(11), 20);
    }

    // ---- Promise 2

    private static void giveAtTheEnds() {
        for (int f : new int[] {0, 11}) {
            for (int price : new int[] {1, 20}) {
                Graph x = new Graph();
                due(x.give(f, price), 0);
                due(x.given(), set(f));
                due(x.take(f), price);
            }
        }
    }

    private static void giveChangesThePrice() {
        Graph x = new Graph();
        x.give(0, 1);
        due(x.give(0, 20), 1);
        due(x.given(), set(0));
        due(x.cheapestShield(), 20);
        due(x.give(0, 20), 20);
        due(x.give(0, 1), 20);
        due(x.cheapestShield(), 1);
        due(x.take(0), 1);
    }

    private static void giveOfNoFact() {
        for (int f : NO_FACTS) {
            due(new Graph().give(f, 1), BAD_ARG);
            due(twoWays().give(f, 20), BAD_ARG);
            due(withGiven(8, 1).give(f, 1), BAD_ARG);
        }
    }

    private static void giveOfNoPrice() {
        for (int price : NO_PRICES) {
            due(new Graph().give(0, price), BAD_ARG);
            due(new Graph().give(11, price), BAD_ARG);
            due(twoWays().give(1, price), BAD_ARG);
            Graph x = twoWays();
            x.give(1, price);
            due(x.take(1), 3);
        }
    }

    private static void giveOfNeither() {
        for (int f : NO_FACTS) {
            for (int price : NO_PRICES) {
                due(new Graph().give(f, price), BAD_ARG);
                due(withGiven(8, 1).give(f, price), BAD_ARG);
            }
        }
    }

    private static void giveTestsTheRangesFirst() {
        for (int f : NO_FACTS) {
            due(withGiven(8, 1).give(f, 1), BAD_ARG);
        }
        for (int price : NO_PRICES) {
            due(withGiven(8, 1).give(8, price), BAD_ARG);
            due(withGiven(8, 1).give(11, price), BAD_ARG);
            due(withGiven(8, 1).give(7, price), BAD_ARG);
        }
    }

    private static void giveWhen8AreGiven() {
        Graph x = withGiven(7, 1);
        due(x.give(11, 1), 0);
        for (int f = 7; f < 11; f++) {
            due(x.give(f, 1), FULL);
            due(x.give(f, 20), FULL);
        }
        due(x.take(0), 1);
        due(x.give(7, 1), 0);
        due(x.give(0, 1), FULL);
        due(x.take(11), 1);
        due(x.take(7), 1);
        due(x.give(11, 1), 0);
        due(x.give(0, 1), 0);
        due(x.give(7, 1), FULL);
        // Facts that are only reached aren't given, and don't count.
        Graph y = withGiven(7, 1);
        for (int f = 7; f < 12; f++) {
            y.rule(0, f);
        }
        due(y.give(11, 1), 0);
        due(y.give(10, 1), FULL);
        // A change of price doesn't count as one more.
        Graph z = withGiven(7, 1);
        for (int k = 0; k < 9; k++) {
            z.give(0, 2);
        }
        due(z.give(7, 1), 0);
        due(z.give(8, 1), FULL);
    }

    private static void giveOfAGivenFactWhen8AreGiven() {
        Graph x = withGiven(8, 1);
        for (int f = 0; f < 8; f++) {
            due(x.give(f, 20), 1);
            due(x.give(f, 2 + f), 20);
        }
        for (int f = 0; f < 8; f++) {
            due(x.take(f), 2 + f);
        }
    }

    private static void giveAnswersThePriceBefore() {
        for (int f = 0; f < 12; f++) {
            Graph x = new Graph();
            due(x.give(f, 20), 0);
            due(x.give(f, 1), 20);
            due(x.give(f, 7), 1);
            x.take(f);
            due(x.give(f, 3), 0);
            due(x.give(f, 0), BAD_ARG);
            due(x.give(f, 21), BAD_ARG);
            due(x.give(f, 4), 3);
        }
    }

    // ---- Promise 3

    private static void takeMakesNotGiven() {
        Graph x = withGiven(8, 1);
        for (int f = 0; f < 8; f++) {
            due(x.take(f), 1);
            due(x.given(), 255 - ((2 << f) - 1));
            due(x.shieldWith(f), NONE);
        }
        due(x.reached(), 0);
        // What a rule yields is still reached, though it is no longer given.
        Graph y = twoWays();
        y.give(0, 1);
        y.take(0);
        due(y.given(), set(1, 2, 3));
        due(y.reached(), set(0, 1, 2, 3, 4));
    }

    private static void takeOfNoFact() {
        for (int f : NO_FACTS) {
            due(new Graph().take(f), BAD_ARG);
            due(twoWays().take(f), BAD_ARG);
            due(withGiven(8, 1).take(f), BAD_ARG);
        }
    }

    private static void takeOfAFactNotGiven() {
        for (int f = 0; f < 12; f++) {
            due(new Graph().take(f), NONE);
            Graph all = new Graph();
            for (int k = 0; k < 8; k++) {
                all.give((f + 1 + k) % 12, 1);
            }
            due(all.take(f), NONE);
            Graph reached = new Graph();
            reached.rule(0, f);
            reached.goal(f);
            due(reached.take(f), NONE);
            Graph taken = new Graph();
            taken.give(f, 5);
            taken.take(f);
            due(taken.take(f), NONE);
        }
    }

    private static void takeAnswersThePrice() {
        for (int f : new int[] {0, 11}) {
            for (int price = 1; price <= 20; price++) {
                Graph x = new Graph();
                x.give(f, price);
                due(x.take(f), price);
                x.give(f, 21 - price);
                due(x.take(f), 21 - price);
            }
        }
    }

    // ---- Promise 4

    private static void ruleAtTheEnds() {
        for (int needs : new int[] {0, 1, 2048, 4095}) {
            for (int yield : new int[] {0, 11}) {
                Graph x = new Graph();
                due(x.rule(needs, yield), 0);
                due(x.rules(), 1);
                due(x.reached(), needs == 0 ? set(yield) : 0);
            }
        }
        Graph ends = new Graph();
        ends.give(11, 1);
        ends.rule(2048, 0);
        due(ends.reached(), 2049);
        Graph back = new Graph();
        back.give(0, 1);
        back.rule(1, 11);
        due(back.reached(), 2049);
    }

    private static void ruleOfNoSet() {
        for (int needs : NO_SETS) {
            due(new Graph().rule(needs, 0), BAD_ARG);
            due(new Graph().rule(needs, 11), BAD_ARG);
            due(withRules(13).rule(needs, 0), BAD_ARG);
        }
    }

    private static void ruleOfNoYield() {
        for (int yield : NO_FACTS) {
            due(new Graph().rule(0, yield), BAD_ARG);
            due(new Graph().rule(4095, yield), BAD_ARG);
            due(withRules(13).rule(0, yield), BAD_ARG);
        }
    }

    private static void ruleOfNeither() {
        for (int needs : NO_SETS) {
            for (int yield : NO_FACTS) {
                due(new Graph().rule(needs, yield), BAD_ARG);
                due(withRules(14).rule(needs, yield), BAD_ARG);
            }
        }
    }

    private static void ruleTestsTheRangesFirst() {
        for (int needs : NO_SETS) {
            due(withRules(14).rule(needs, 0), BAD_ARG);
        }
        for (int yield : NO_FACTS) {
            due(withRules(14).rule(0, yield), BAD_ARG);
        }
    }

    private static void ruleWhenThereAre14() {
        Graph x = withRules(13);
        due(x.rule(0, 11), 13);
        due(x.reached(), set(11));
        due(x.rule(0, 8), FULL);
        due(x.rule(4095, 0), FULL);
        due(x.reached(), set(11));
        due(x.rules(), 14);
        due(x.unrule(), 13);
        due(x.rule(0, 8), 13);
        due(x.reached(), set(8));
        due(x.rule(0, 11), FULL);
        x.unrule();
        x.unrule();
        due(x.rule(0, 1), 12);
        due(x.rule(0, 2), 13);
        due(x.rule(0, 3), FULL);
        due(x.reached(), set(1, 2));
        // A refused rule doesn't count.
        Graph y = withRules(13);
        y.rule(4096, 0);
        y.rule(0, 12);
        due(y.rule(0, 0), 13);
        due(y.rule(0, 0), FULL);
    }

    private static void ruleAnswersItsNumber() {
        Graph x = new Graph();
        for (int r = 0; r < 14; r++) {
            due(x.rule(4096, 0), BAD_ARG);
            due(x.rule(set(r % 12), 11 - r % 12), r);
        }
        Graph y = new Graph();
        y.rule(0, 0);
        y.rule(0, 1);
        y.unrule();
        due(y.rule(0, 2), 1);
        y.unrule();
        y.unrule();
        due(y.rule(0, 3), 0);
        due(y.reached(), set(3));
    }

    // ---- Promise 5

    private static void unruleRemovesTheHighest() {
        Graph x = new Graph();
        for (int r = 0; r < 12; r++) {
            x.rule(0, r);
        }
        x.rule(0, 0);
        x.rule(0, 0);
        x.unrule();
        x.unrule();
        for (int r = 11; r >= 0; r--) {
            due(x.reached(), (2 << r) - 1);
            x.unrule();
        }
        due(x.reached(), 0);
        // Of a rule that is there twice, one stays.
        Graph y = new Graph();
        y.rule(0, 5);
        y.rule(0, 5);
        y.unrule();
        due(y.reached(), set(5));
    }

    private static void unruleOfNone() {
        due(new Graph().unrule(), NONE);
        Graph x = withGiven(8, 1);
        due(x.unrule(), NONE);
        due(x.unrule(), NONE);
        due(x.rules(), 0);
        due(x.rule(0, 0), 0);
        due(x.unrule(), 0);
        due(x.unrule(), NONE);
        due(x.rule(0, 0), 0);
        x.rule(4096, 0);
        due(x.unrule(), 0);
        due(x.unrule(), NONE);
    }

    private static void unruleAnswersTheNumber() {
        for (int rules = 1; rules <= 14; rules++) {
            Graph x = withRules(rules);
            for (int r = rules - 1; r >= 0; r--) {
                due(x.unrule(), r);
            }
            due(x.unrule(), NONE);
        }
    }

    // ---- Promise 6

    private static void rulesFrom0To14() {
        for (int rules = 0; rules <= 14; rules++) {
            due(withRules(rules).rules(), rules);
        }
        Graph x = withRules(14);
        x.rule(0, 0);
        due(x.rules(), 14);
        x.rule(4096, 0);
        x.rule(0, 12);
        due(x.rules(), 14);
        for (int rules = 13; rules >= 0; rules--) {
            x.unrule();
            due(x.rules(), rules);
        }
        x.unrule();
        due(x.rules(), 0);
    }

    // ---- Promise 7

    private static void goalAtTheEnds() {
        Graph x = new Graph();
        x.give(0, 3);
        x.give(11, 5);
        due(x.goal(11), 0);
        due(x.vital(), set(11));
        due(x.shield(), set(11));
        due(x.goal(0), 11);
        due(x.vital(), set(0));
        due(x.shield(), set(0));
        due(x.goal(5), 0);
        due(x.vital(), 0);
        due(x.shield(), 0);
    }

    private static void goalOfNoFact() {
        for (int f : NO_FACTS) {
            due(new Graph().goal(f), BAD_ARG);
            Graph x = new Graph();
            x.goal(11);
            due(x.goal(f), BAD_ARG);
            due(x.goal(0), 11);
        }
    }

    private static void goalAnswersTheGoalBefore() {
        Graph x = new Graph();
        int before = 0;
        for (int k = 0; k < 36; k++) {
            int f = 11 - k * 5 % 12;
            due(x.goal(f), before);
            due(x.goal(f), f);
            before = f;
        }
    }

    // ---- Promise 8

    private static void givenFromNoneTo8() {
        Graph x = new Graph();
        due(x.given(), 0);
        int set = 0;
        for (int f = 11; f >= 4; f--) {
            x.give(f, 1);
            set += 1 << f;
            due(x.given(), set);
        }
        x.give(3, 1);
        due(x.given(), 4080);
        x.give(4, 20);
        due(x.given(), 4080);
        for (int f = 4; f < 12; f++) {
            x.take(f);
            set -= 1 << f;
            due(x.given(), set);
        }
        x.rule(0, 0);
        x.goal(0);
        due(x.given(), 0);
    }

    // ---- Promise 9

    private static void reachedFromNoneToAll() {
        Graph x = new Graph();
        due(x.reached(), 0);
        x.rule(1, 1);
        due(x.reached(), 0);
        for (int f = 0; f < 8; f++) {
            x.give(f, 1);
        }
        due(x.reached(), 255);
        x.rule(255, 8);
        x.rule(511, 9);
        x.rule(1023, 10);
        due(x.reached(), 2047);
        x.rule(2047, 11);
        due(x.reached(), 4095);
        x.take(7);
        due(x.reached(), 127);
    }

    // ---- Promise 10

    private static void supportsOfAnEmptyAndAWholeSet() {
        due(twoWays().supports(0), false);
        due(twoWays().supports(4095), true);
        due(fromNothing().supports(0), true);
        due(fromNothing().supports(4095), true);
        due(outOfReach().supports(0), false);
        due(outOfReach().supports(4095), false);
    }

    private static void supportsOfFactsNotGiven() {
        // The goal and a fact on the way to it are in the set, but not given.
        due(twoWays().supports(set(0)), false);
        due(twoWays().supports(set(4)), false);
        due(twoWays().supports(set(0, 1, 4, 5, 6, 7, 8, 9, 10, 11)), false);
        due(twoWays().supports(set(1, 2)), true);
        due(twoWays().supports(set(1)), false);
        due(twoWays().supports(set(2)), false);
        due(twoWays().supports(set(3, 5)), true);
        // Given facts outside the set don't count.
        due(twoWays().supports(4095 - set(1, 3)), false);
        due(twoWays().supports(4095 - set(3)), true);
        Graph x = twoWays();
        x.take(3);
        due(x.supports(set(3)), false);
    }

    private static void supportsOfNoSet() {
        for (int set : NO_SETS) {
            due(new Graph().supports(set), false);
            due(twoWays().supports(set), false);
            due(fromNothing().supports(set), false);
            due(anyOfEight(1).supports(set), false);
        }
    }

    // ---- Promise 11

    private static void leastSupportsFromNoneToMany() {
        due(new Graph().leastSupports(), 0);
        due(outOfReach().leastSupports(), 0);
        due(fromNothing().leastSupports(), 1);
        due(allOfEight(1).leastSupports(), 1);
        due(anyOfEight(1).leastSupports(), 8);
        // One of 4 to 6, one of 7 to 9 and one of 10 and 11.
        Graph x = new Graph();
        for (int f = 4; f < 12; f++) {
            x.give(f, 1);
            x.rule(set(f), 1 + (f - 4) / 3);
        }
        x.rule(set(1, 2, 3), 0);
        due(x.leastSupports(), 18);
        x.rule(0, 3);
        due(x.leastSupports(), 9);
        x.rule(0, 2);
        due(x.leastSupports(), 3);
        x.rule(0, 1);
        due(x.leastSupports(), 1);
    }

    // ---- Promise 12

    private static void cheapestSupportIsLeast() {
        due(anyOfEight(20).cheapestSupport(), 20);
        due(allOfEight(20).cheapestSupport(), 160);
        due(fromNothing().cheapestSupport(), 0);
        // The one with more facts may be the cheaper one, and either may be the lesser number.
        Graph x = twoWays();
        x.give(3, 8);
        due(x.cheapestSupport(), 7);
        x.give(3, 7);
        due(x.cheapestSupport(), 7);
        x.give(3, 6);
        due(x.cheapestSupport(), 6);
        Graph y = anyOfEight(20);
        y.give(11, 19);
        due(y.cheapestSupport(), 19);
        y.give(4, 18);
        due(y.cheapestSupport(), 18);
    }

    private static void cheapestSupportOfNone() {
        due(new Graph().cheapestSupport(), NONE);
        due(outOfReach().cheapestSupport(), NONE);
        Graph x = allOfEight(1);
        due(x.cheapestSupport(), 8);
        x.take(11);
        due(x.cheapestSupport(), NONE);
        x.rule(0, 11);
        due(x.cheapestSupport(), 7);
        x.rule(0, 0);
        due(x.cheapestSupport(), 0);
    }

    // ---- Promises 13 to 15

    private static void cheapestShieldIsLeast() {
        due(outOfReach().cheapestShield(), 0);
        due(allOfEight(1).cheapestShield(), 1);
        due(anyOfEight(20).cheapestShield(), 160);
        Graph x = allOfEight(20);
        x.give(11, 19);
        due(x.cheapestShield(), 19);
        x.give(4, 18);
        due(x.cheapestShield(), 18);
        // One dear fact against three cheap ones: dearer, as dear, cheaper.
        Graph y = new Graph();
        y.give(1, 10);
        for (int f = 2; f <= 4; f++) {
            y.give(f, 3);
            y.rule(set(1, f), 0);
        }
        due(y.cheapestShield(), 9);
        y.give(1, 9);
        due(y.cheapestShield(), 9);
        y.give(1, 8);
        due(y.cheapestShield(), 8);
    }

    private static void cheapestShieldOfNone() {
        due(fromNothing().cheapestShield(), NONE);
        Graph none = new Graph();
        none.rule(0, 0);
        due(none.cheapestShield(), NONE);
        none.unrule();
        due(none.cheapestShield(), 0);
        // By a way of several rules, with facts given that have no part in it.
        Graph x = new Graph();
        x.give(9, 20);
        x.rule(set(1), 0);
        x.rule(set(2), 1);
        due(x.cheapestShield(), 0);
        x.rule(0, 2);
        due(x.cheapestShield(), NONE);
        x.goal(9);
        due(x.cheapestShield(), 20);
    }

    private static void shieldOfEqualsIsTheLeastNumber() {
        due(allOfEight(20).shield(), set(4));
        Graph x = twoWays();
        due(x.shield(), set(1, 3));
        x.give(1, 4);
        due(x.shield(), set(1, 3));
        x.give(1, 5);
        due(x.shield(), set(2, 3));
        // {1, 2} is the lesser number, {3} the smaller set.
        Graph y = new Graph();
        y.give(1, 2);
        y.give(2, 3);
        y.give(3, 5);
        y.rule(set(1, 3), 0);
        y.rule(set(2, 3), 0);
        due(y.shield(), set(1, 2));
        y.give(3, 4);
        due(y.shield(), set(3));
        // {1} is the lesser number and the smaller set.
        Graph z = new Graph();
        z.give(1, 5);
        z.give(2, 3);
        z.give(3, 2);
        z.rule(set(1, 2), 0);
        z.rule(set(1, 3), 0);
        due(z.shield(), set(1));
        z.give(1, 6);
        due(z.shield(), set(2, 3));
        due(outOfReach().shield(), 0);
        due(anyOfEight(20).shield(), 4080);
    }

    private static void shieldOfNone() {
        due(fromNothing().shield(), NONE);
        Graph none = new Graph();
        due(none.shield(), 0);
        none.rule(0, 0);
        due(none.shield(), NONE);
        none.goal(11);
        due(none.shield(), 0);
        none.rule(1, 11);
        due(none.shield(), NONE);
    }

    private static void smallestShieldIsLeast() {
        due(outOfReach().smallestShield(), 0);
        due(allOfEight(20).smallestShield(), 1);
        due(anyOfEight(1).smallestShield(), 8);
        // The smallest is not the cheapest one.
        Graph y = new Graph();
        y.give(1, 20);
        y.give(2, 1);
        y.give(3, 1);
        y.rule(set(1, 2), 0);
        y.rule(set(1, 3), 0);
        due(y.smallestShield(), 1);
        due(y.cheapestShield(), 2);
        Graph x = anyOfEight(1);
        for (int f = 4; f < 12; f++) {
            x.take(f);
            due(x.smallestShield(), 11 - f);
        }
    }

    private static void smallestShieldOfNone() {
        due(fromNothing().smallestShield(), NONE);
        Graph none = new Graph();
        due(none.smallestShield(), 0);
        none.rule(0, 0);
        due(none.smallestShield(), NONE);
        none.unrule();
        due(none.smallestShield(), 0);
    }

    // ---- Promises 16 and 17

    private static void vitalIsInEverySupport() {
        due(allOfEight(1).vital(), 4080);
        due(anyOfEight(1).vital(), 0);
        due(fromNothing().vital(), 0);
        due(twoWays().vital(), 0);
        // A given fact that has no part in any way isn't in every support.
        Graph x = twoWays();
        x.take(3);
        x.give(5, 1);
        due(x.vital(), set(1, 2));
        Graph y = new Graph();
        y.give(1, 1);
        y.give(2, 1);
        y.give(3, 1);
        y.rule(set(1, 2), 0);
        y.rule(set(2, 3), 0);
        due(y.vital(), set(2));
        // The goal is reached, but it isn't given.
        due(y.reached(), set(0, 1, 2, 3));
        Graph one = new Graph();
        one.give(0, 1);
        due(one.vital(), set(0));
        one.rule(0, 0);
        due(one.vital(), 0);
    }

    private static void vitalOfNoSupport() {
        due(new Graph().vital(), 0);
        due(outOfReach().vital(), 0);
        Graph x = withGiven(8, 1);
        x.goal(8);
        due(x.vital(), 0);
        Graph y = allOfEight(1);
        y.take(4);
        due(y.vital(), 0);
    }

    private static void usefulIsInSomeLeastSupport() {
        due(new Graph().useful(), 0);
        due(outOfReach().useful(), 0);
        due(fromNothing().useful(), 0);
        due(allOfEight(1).useful(), 4080);
        due(anyOfEight(1).useful(), 4080);
        due(twoWays().useful(), set(1, 2, 3));
        // 5 has no part in any way, and 2 only in one that is not least.
        Graph x = twoWays();
        x.give(5, 1);
        due(x.useful(), set(1, 2, 3));
        x.rule(set(1), 0);
        due(x.useful(), set(1, 3));
        // The price has no part in it.
        x.give(3, 20);
        due(x.useful(), set(1, 3));
    }

    // ---- Promise 18

    private static void shieldWithIsLeast() {
        due(twoWays().shieldWith(1), 9);
        due(twoWays().shieldWith(2), 10);
        due(twoWays().shieldWith(3), 9);
        for (int f = 4; f < 12; f++) {
            due(anyOfEight(20).shieldWith(f), 160);
            due(allOfEight(20).shieldWith(f), 20);
        }
        // A fact that has no part in any way comes on top, also where no fact need be taken away.
        for (int f : new int[] {5, 11}) {
            Graph x = twoWays();
            x.give(f, 20);
            due(x.shieldWith(f), 29);
        }
        due(outOfReach().shieldWith(1), 2);
        due(outOfReach().shieldWith(2), 3);
        Graph y = new Graph();
        y.give(0, 1);
        y.give(11, 1);
        due(y.shieldWith(0), 1);
        due(y.shieldWith(11), 2);
    }

    private static void shieldWithOfNone() {
        due(fromNothing().shieldWith(1), NONE);
        due(fromNothing().shieldWith(2), NONE);
        Graph x = anyOfEight(1);
        x.rule(0, 0);
        for (int f = 4; f < 12; f++) {
            due(x.shieldWith(f), NONE);
        }
        x.unrule();
        due(x.shieldWith(4), 8);
    }

    private static void shieldWithTestsTheRangeFirst() {
        for (int f : NO_FACTS) {
            due(new Graph().shieldWith(f), BAD_ARG);
            due(twoWays().shieldWith(f), BAD_ARG);
            due(fromNothing().shieldWith(f), BAD_ARG);
            due(anyOfEight(1).shieldWith(f), BAD_ARG);
        }
    }

    private static void shieldWithOfAFactNotGiven() {
        for (int f = 0; f < 12; f++) {
            due(new Graph().shieldWith(f), NONE);
            Graph taken = new Graph();
            taken.give(f, 5);
            due(taken.shieldWith(f), 5);
            taken.take(f);
            due(taken.shieldWith(f), NONE);
            Graph reached = new Graph();
            reached.rule(0, f);
            reached.goal((f + 1) % 12);
            due(reached.shieldWith(f), NONE);
        }
        due(twoWays().shieldWith(0), NONE);
        due(twoWays().shieldWith(4), NONE);
        due(twoWays().shieldWith(11), NONE);
        due(fromNothing().shieldWith(0), NONE);
        due(outOfReach().shieldWith(3), NONE);
    }

    private static void terms() {
        test("What it is: An object is used for at most 512 calls after it has been made",
            AttackGraphEdges::upTo512Calls);
        test("Terms: FACTS are numbered 0 to 11.", AttackGraphEdges::facts0To11);
        test("Terms: every given fact has a PRICE, 1 to 20.", AttackGraphEdges::prices1To20);
        test("Terms: RULES are numbered 0, 1, .. in the order in which they are added, at most 14",
            AttackGraphEdges::rulesInOrderAtMost14);
        test("Terms: a rule has a set of facts, its NEEDS, and one fact, its YIELD.", AttackGraphEdges::needsAndYield);
        test("Terms: A set of facts is the number that has 2 to the power f added up for its facts f (0 to 4095).",
            AttackGraphEdges::setsAreNumbers);
        test("Terms: what can be REACHED is the least set of facts that has all facts of G",
            AttackGraphEdges::reachedIsTheLeastSet);
        test("Terms: and, whenever it has all needs of a rule, also the rule's yield",
            AttackGraphEdges::reachedInManySteps);
        test("Terms: (a rule without needs yields always).", AttackGraphEdges::noNeedsYieldAlways);
        test("Terms: The GOAL is a fact, 0 at first.", AttackGraphEdges::goal0AtFirst);
        test("Terms: A subset of the given facts is a SUPPORT if the goal can be reached from it",
            AttackGraphEdges::supportsAreSubsetsOfTheGiven);
        test("Terms: a least support is one of which no smaller subset is a support.",
            AttackGraphEdges::leastHasNoSmallerSupport);
        test("Terms: A subset H of the given facts is a SHIELD if the goal can't be reached from the given facts"
            + " without those of H.", AttackGraphEdges::shieldsFromNoneToAll);
        test("Terms: The COST of a set of given facts is the sum of their prices.",
            AttackGraphEdges::costsFromNoneToAll);
        test("Terms: At most 8 facts are given.", AttackGraphEdges::atMost8Given);
        test("Terms: `BAD_ARG = -1`: An argument is out of its range.", AttackGraphEdges::badArg);
        test("Terms: `FULL = -2`: A limit is reached.", AttackGraphEdges::full);
        test("Terms: `NONE = -4`: There is no such thing.", AttackGraphEdges::none);
    }

    private static void changes() {
        test("Promise 1: No fact is given, there is no rule.", AttackGraphEdges::aNewObject);
        test("Promise 1: A new object", AttackGraphEdges::aNewObjectBesideOthers);
        test("Promise 2: Fact f becomes given with the price", AttackGraphEdges::giveAtTheEnds);
        test("Promise 2: (or its price changes, if it is given).", AttackGraphEdges::giveChangesThePrice);
        test("Promise 2: f not 0 to 11 .. answers BAD_ARG", AttackGraphEdges::giveOfNoFact);
        test("Promise 2: price not 1 to 20 answers BAD_ARG", AttackGraphEdges::giveOfNoPrice);
        test("Promise 2: f not 0 to 11 or price not 1 to 20 answers BAD_ARG", AttackGraphEdges::giveOfNeither);
        test("Promise 2: Tested in this order", AttackGraphEdges::giveTestsTheRangesFirst);
        test("Promise 2: f is not given and 8 facts are given answers FULL.", AttackGraphEdges::giveWhen8AreGiven);
        test("Promise 2: f is not given and", AttackGraphEdges::giveOfAGivenFactWhen8AreGiven);
        test("Promise 2: Otherwise the price before, 0 if it was not given.",
            AttackGraphEdges::giveAnswersThePriceBefore);
        test("Promise 3: Fact f is no longer given.", AttackGraphEdges::takeMakesNotGiven);
        test("Promise 3: BAD_ARG if f is not 0 to 11", AttackGraphEdges::takeOfNoFact);
        test("Promise 3: NONE if it is not given.", AttackGraphEdges::takeOfAFactNotGiven);
        test("Promise 3: Otherwise its price.", AttackGraphEdges::takeAnswersThePrice);
        test("Promise 4: Adds a rule.", AttackGraphEdges::ruleAtTheEnds);
        test("Promise 4: needs not 0 to 4095 .. answers BAD_ARG", AttackGraphEdges::ruleOfNoSet);
        test("Promise 4: yield not 0 to 11 answers BAD_ARG", AttackGraphEdges::ruleOfNoYield);
        test("Promise 4: needs not 0 to 4095 or yield not 0 to 11 answers BAD_ARG", AttackGraphEdges::ruleOfNeither);
        test("Promise 4: Tested in this order", AttackGraphEdges::ruleTestsTheRangesFirst);
        test("Promise 4: 14 rules answers FULL.", AttackGraphEdges::ruleWhenThereAre14);
        test("Promise 4: Otherwise its number.", AttackGraphEdges::ruleAnswersItsNumber);
        test("Promise 5: Removes the rule with the highest number.", AttackGraphEdges::unruleRemovesTheHighest);
        test("Promise 5: NONE if there is none.", AttackGraphEdges::unruleOfNone);
        test("Promise 5: Otherwise the number it had.", AttackGraphEdges::unruleAnswersTheNumber);
        test("Promise 7: The goal becomes fact f.", AttackGraphEdges::goalAtTheEnds);
        test("Promise 7: BAD_ARG if f is not 0 to 11", AttackGraphEdges::goalOfNoFact);
        test("Promise 7: otherwise the goal before.", AttackGraphEdges::goalAnswersTheGoalBefore);
    }

    private static void questions() {
        test("Promise 6: The number of rules.", AttackGraphEdges::rulesFrom0To14);
        test("Promise 8: The set of the given facts.", AttackGraphEdges::givenFromNoneTo8);
        test("Promise 9: What can be reached from the given facts.", AttackGraphEdges::reachedFromNoneToAll);
        test("Promise 10: Whether the goal can be reached", AttackGraphEdges::supportsOfAnEmptyAndAWholeSet);
        test("Promise 10: from the given facts that are in the set", AttackGraphEdges::supportsOfFactsNotGiven);
        test("Promise 10: false if set is not 0 to 4095.", AttackGraphEdges::supportsOfNoSet);
        test("Promise 11: How many least supports there are.", AttackGraphEdges::leastSupportsFromNoneToMany);
        test("Promise 12: The least cost of a support", AttackGraphEdges::cheapestSupportIsLeast);
        test("Promise 12: NONE if there is no support.", AttackGraphEdges::cheapestSupportOfNone);
        test("Promise 13: The least cost of a shield", AttackGraphEdges::cheapestShieldIsLeast);
        test("Promise 13: NONE if there is no shield (the goal can be reached from nothing).",
            AttackGraphEdges::cheapestShieldOfNone);
        test("Promise 14: Of the shields of least cost the one that is the least number",
            AttackGraphEdges::shieldOfEqualsIsTheLeastNumber);
        test("Promise 14: NONE if there is no shield.", AttackGraphEdges::shieldOfNone);
        test("Promise 15: The least number of facts of a shield", AttackGraphEdges::smallestShieldIsLeast);
        test("Promise 15: NONE if there is no shield.", AttackGraphEdges::smallestShieldOfNone);
        test("Promise 16: The set of the given facts that are in every support",
            AttackGraphEdges::vitalIsInEverySupport);
        test("Promise 16: 0 if there is no support.", AttackGraphEdges::vitalOfNoSupport);
        test("Promise 17: The set of the given facts that are in some least support.",
            AttackGraphEdges::usefulIsInSomeLeastSupport);
        test("Promise 18: The least cost of a shield that has fact f", AttackGraphEdges::shieldWithIsLeast);
        test("Promise 18: NONE if there is none.", AttackGraphEdges::shieldWithOfNone);
        test("Promise 18: Tested first: f not 0 to 11 answers BAD_ARG", AttackGraphEdges::shieldWithTestsTheRangeFirst);
        test("Promise 18: f not given answers NONE.", AttackGraphEdges::shieldWithOfAFactNotGiven);
    }

    public static void main(String[] args) {
        terms();
        changes();
        questions();
        System.out.println(tests + " sentences tested, " + failed + " broken");
        if (failed != 0) {
            System.exit(1);
        }
    }
}
