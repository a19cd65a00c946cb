// For each promise of the document: ordinary inputs, the edges that it names, and wrong inputs.
public final class AttackGraphPromises {
    private static final int BAD_ARG = -1;
    private static final int FULL = -2;
    private static final int NONE = -4;

    // 32, 44 and -20 are facts again if only the low bits of a shift count.
    private static final int[] NO_FACTS = {-1, 12, 13, 31, 32, 44, -20, Integer.MIN_VALUE, Integer.MAX_VALUE};
    private static final int[] NO_SETS = {-1, 4096, 4097, 8191, -4096, Integer.MIN_VALUE, Integer.MAX_VALUE};

    private static int asked = 0;
    private static int wrong = 0;

    private static void due(String what, long got, long want) {
        asked++;
        if (got != want) {
            wrong++;
            System.out.println(what + " answered " + got + ", due is " + want);
        }
    }

    private static void due(String what, boolean got, boolean want) {
        due(what, got ? 1L : 0L, want ? 1L : 0L);
    }

    private static int set(int... facts) {
        int set = 0;
        for (int f : facts) {
            set |= 1 << f;
        }
        return set;
    }

    // Everything that calls can tell of an object, the goal and the prices too.
    private static String told(AttackGraph x) {
        StringBuilder s = new StringBuilder();
        s.append(x.rules()).append(' ').append(x.given()).append(' ').append(x.reached());
        s.append(' ').append(x.leastSupports()).append(' ').append(x.cheapestSupport());
        s.append(' ').append(x.cheapestShield()).append(' ').append(x.shield()).append(' ').append(x.smallestShield());
        s.append(' ').append(x.vital()).append(' ').append(x.useful());
        int goal = x.goal(0);
        x.goal(goal);
        s.append(" goal ").append(goal);
        for (int f = 0; f < 12; f++) {
            int price = x.take(f);
            if (price > 0) {
                x.give(f, price);
            }
            s.append(' ').append(price).append('/').append(x.shieldWith(f));
        }
        return s.toString();
    }

    private static void unchanged(String what, String before, AttackGraph x) {
        String after = told(x);
        asked++;
        if (!before.equals(after)) {
            wrong++;
            System.out.println(what + " changed the object from " + before + " to " + after);
        }
    }

    // Goal 0 from facts 1 and 2 together, or from 3 alone.
    private static AttackGraph twoWays() {
        AttackGraph x = new AttackGraph();
        x.give(1, 3);
        x.give(2, 4);
        x.give(3, 6);
        x.rule(set(1, 2), 4);
        x.rule(set(4), 0);
        x.rule(set(3), 0);
        return x;
    }

    private static void promise1NewObject() {
        AttackGraph x = new AttackGraph();
        due("new: given()", x.given(), 0);
        due("new: rules()", x.rules(), 0);
        due("new: reached()", x.reached(), 0);
        due("new: unrule()", x.unrule(), NONE);
        for (int f = 0; f < 12; f++) {
            due("new: take(" + f + ")", x.take(f), NONE);
        }
        due("new: supports(4095)", x.supports(4095), false);
        due("new: leastSupports()", x.leastSupports(), 0);
        due("new: cheapestSupport()", x.cheapestSupport(), NONE);
        due("new: cheapestShield()", x.cheapestShield(), 0);
        due("new: shield()", x.shield(), 0);
        due("new: smallestShield()", x.smallestShield(), 0);
        due("new: vital()", x.vital(), 0);
        due("new: useful()", x.useful(), 0);
        due("new: shieldWith(0)", x.shieldWith(0), NONE);
        due("new: goal(5)", x.goal(5), 0);
        twoWays();
        AttackGraph y = new AttackGraph();
        due("a second object: given()", y.given(), 0);
        due("a second object: rules()", y.rules(), 0);
    }

    private static void promise2Give() {
        AttackGraph x = new AttackGraph();
        due("give(0, 1)", x.give(0, 1), 0);
        due("give(11, 20)", x.give(11, 20), 0);
        due("given()", x.given(), set(0, 11));
        due("give(0, 20) again", x.give(0, 20), 1);
        due("give(0, 20) a third time", x.give(0, 20), 20);
        due("give(11, 2) again", x.give(11, 2), 20);
        due("given()", x.given(), set(0, 11));
        due("cheapestShield() at the new price", x.cheapestShield(), 20);
        x.take(0);
        due("give(0, 7) after take", x.give(0, 7), 0);

        AttackGraph y = twoWays();
        String before = told(y);
        for (int f : NO_FACTS) {
            due("give(" + f + ", 1)", y.give(f, 1), BAD_ARG);
        }
        for (int price : new int[] {0, 21, -1, Integer.MIN_VALUE, Integer.MAX_VALUE}) {
            due("give(1, " + price + ")", y.give(1, price), BAD_ARG);
            due("give(5, " + price + ")", y.give(5, price), BAD_ARG);
        }
        unchanged("a refused give", before, y);
        promise2GiveWhenFull();
    }

    private static void promise2GiveWhenFull() {
        AttackGraph x = new AttackGraph();
        for (int f = 0; f < 8; f++) {
            due("give(" + f + ", 5)", x.give(f, 5), 0);
        }
        String before = told(x);
        for (int f = 8; f < 12; f++) {
            due("full: give(" + f + ", 1)", x.give(f, 1), FULL);
        }
        due("full: a wrong fact goes first", x.give(12, 1), BAD_ARG);
        due("full: a wrong price goes first", x.give(8, 0), BAD_ARG);
        due("full: a wrong price goes first", x.give(8, 21), BAD_ARG);
        unchanged("a refused give", before, x);
        due("full: a given fact's price may change", x.give(7, 9), 5);
        due("full: take(3)", x.take(3), 5);
        due("room again: give(11, 1)", x.give(11, 1), 0);
        due("full again: give(3, 1)", x.give(3, 1), FULL);
        due("given()", x.given(), set(0, 1, 2, 4, 5, 6, 7, 11));
    }

    private static void promise3Take() {
        AttackGraph x = twoWays();
        String before = told(x);
        for (int f : NO_FACTS) {
            due("take(" + f + ")", x.take(f), BAD_ARG);
        }
        due("take(0), reached but not given", x.take(0), NONE);
        due("take(11)", x.take(11), NONE);
        unchanged("a refused take", before, x);
        due("take(2)", x.take(2), 4);
        due("take(2) again", x.take(2), NONE);
        due("given()", x.given(), set(1, 3));
        due("reached()", x.reached(), set(0, 1, 3));
        x.give(2, 20);
        due("take(2) gives the newest price", x.take(2), 20);
        AttackGraph y = new AttackGraph();
        y.give(0, 2);
        y.give(11, 3);
        due("take(0)", y.take(0), 2);
        due("take(11)", y.take(11), 3);
        due("given()", y.given(), 0);
    }

    private static void promise4Rule() {
        AttackGraph x = twoWays();
        String before = told(x);
        for (int needs : NO_SETS) {
            due("rule(" + needs + ", 0)", x.rule(needs, 0), BAD_ARG);
        }
        for (int f : NO_FACTS) {
            due("rule(0, " + f + ")", x.rule(0, f), BAD_ARG);
        }
        unchanged("a refused rule", before, x);
        due("rule(4095, 11)", x.rule(4095, 11), 3);
        due("rule(0, 11)", x.rule(0, 11), 4);
        due("reached()", x.reached(), set(0, 1, 2, 3, 4, 11));

        AttackGraph y = new AttackGraph();
        y.give(11, 1);
        for (int r = 0; r < 13; r++) {
            due("rule number", y.rule(set(10), 9), r);
        }
        due("the last rule", y.rule(set(11), 0), 13);
        before = told(y);
        due("rule when full", y.rule(0, 5), FULL);
        due("full: wrong needs go first", y.rule(4096, 5), BAD_ARG);
        due("full: wrong needs go first", y.rule(-1, 5), BAD_ARG);
        due("full: a wrong yield goes first", y.rule(0, 12), BAD_ARG);
        due("full: a wrong yield goes first", y.rule(0, -1), BAD_ARG);
        unchanged("a refused rule", before, y);
        due("the last rule counts", y.reached(), set(0, 11));
    }

    private static void promise5Unrule() {
        AttackGraph x = twoWays();
        due("unrule()", x.unrule(), 2);
        due("the rule is gone", x.supports(set(3)), false);
        due("the others stay", x.supports(set(1, 2)), true);
        due("unrule()", x.unrule(), 1);
        due("reached()", x.reached(), set(1, 2, 3, 4));
        due("a new rule takes the number", x.rule(set(2), 0), 1);
        due("reached() by the new rule", x.reached(), set(0, 1, 2, 3, 4));
        due("the new rule alone", x.supports(set(2)), true);
        due("unrule()", x.unrule(), 1);
        due("unrule()", x.unrule(), 0);
        String before = told(x);
        due("unrule() of none", x.unrule(), NONE);
        due("unrule() of none again", x.unrule(), NONE);
        unchanged("a refused unrule", before, x);
        due("rule(0, 9) is number 0", x.rule(0, 9), 0);

        AttackGraph y = new AttackGraph();
        for (int r = 0; r < 14; r++) {
            y.rule(0, r % 12);
        }
        due("unrule() when full", y.unrule(), 13);
        due("room again", y.rule(0, 0), 13);
        due("full again", y.rule(0, 0), FULL);
        for (int r = 13; r >= 0; r--) {
            due("unrule() down to none", y.unrule(), r);
        }
        due("reached() without rules", y.reached(), 0);
    }

    private static void promise6Rules() {
        AttackGraph x = new AttackGraph();
        for (int r = 0; r < 14; r++) {
            due("rules()", x.rules(), r);
            x.rule(set(1), 1);
        }
        due("rules() when full", x.rules(), 14);
        x.rule(0, 0);
        due("rules() after FULL", x.rules(), 14);
        x.unrule();
        due("rules() after unrule", x.rules(), 13);
    }

    private static void promise7Goal() {
        AttackGraph x = twoWays();
        String before = told(x);
        for (int f : NO_FACTS) {
            due("goal(" + f + ")", x.goal(f), BAD_ARG);
        }
        unchanged("a refused goal", before, x);
        due("goal(11)", x.goal(11), 0);
        due("supports with a goal out of reach", x.supports(4095), false);
        due("goal(4)", x.goal(4), 11);
        due("supports(1, 2)", x.supports(set(1, 2)), true);
        due("supports(3)", x.supports(set(3)), false);
        due("goal(4) again", x.goal(4), 4);
        due("goal(0)", x.goal(0), 4);
        due("supports(3)", x.supports(set(3)), true);
    }

    private static void promise8Given() {
        AttackGraph x = new AttackGraph();
        for (int f = 0; f < 12; f++) {
            x.give(f, 1);
            due("given() of fact " + f + " alone", x.given(), 1 << f);
            x.take(f);
            due("given() after take(" + f + ")", x.given(), 0);
        }
        AttackGraph y = twoWays();
        due("given() has no reached facts", y.given(), set(1, 2, 3));
        y.goal(7);
        due("given() has no goal", y.given(), set(1, 2, 3));
    }

    private static void promise9Reached() {
        AttackGraph chain = new AttackGraph();
        // Against the order of the rules: only the last rule can be used first.
        for (int f = 0; f < 11; f++) {
            chain.rule(set(f + 1), f);
        }
        due("reached() from nothing", chain.reached(), 0);
        chain.give(11, 1);
        due("reached() down the chain", chain.reached(), 4095);
        chain.take(11);
        chain.give(5, 1);
        due("reached() from the middle", chain.reached(), set(0, 1, 2, 3, 4, 5));
        chain.take(5);
        chain.rule(0, 11);
        due("reached() from a rule without needs", chain.reached(), 4095);

        AttackGraph circle = new AttackGraph();
        circle.rule(set(1), 2);
        circle.rule(set(2), 1);
        circle.rule(set(3), 3);
        due("reached() is the least set", circle.reached(), 0);
        circle.give(2, 1);
        due("reached() in a circle", circle.reached(), set(1, 2));

        AttackGraph all = twoWays();
        all.take(3);
        all.take(1);
        due("reached() needs all needs", all.reached(), set(2));
        all.give(1, 1);
        due("reached() with all needs", all.reached(), set(0, 1, 2, 4));
    }

    private static void promise10Supports() {
        AttackGraph x = twoWays();
        due("supports(0)", x.supports(0), false);
        due("supports(1)", x.supports(set(1)), false);
        due("supports(1, 2)", x.supports(set(1, 2)), true);
        due("supports(3)", x.supports(set(3)), true);
        due("supports(4095)", x.supports(4095), true);
        due("supports(0), not given", x.supports(set(0)), false);
        due("supports(4), not given", x.supports(set(4)), false);
        due("supports(0, 1, 4), two not given", x.supports(set(0, 1, 4)), false);
        for (int s : NO_SETS) {
            due("supports(" + s + ")", x.supports(s), false);
        }
        x.rule(0, 0);
        due("supports(0) from nothing", x.supports(0), true);
        for (int s : NO_SETS) {
            due("supports(" + s + ") from nothing", x.supports(s), false);
        }
        AttackGraph y = new AttackGraph();
        y.give(11, 1);
        y.goal(11);
        due("supports(2048)", y.supports(2048), true);
        due("supports(2047)", y.supports(2047), false);
    }

    private static void promise11LeastSupports() {
        AttackGraph x = twoWays();
        due("leastSupports()", x.leastSupports(), 2);
        x.give(0, 1);
        due("leastSupports() with the goal given", x.leastSupports(), 3);
        x.rule(set(1), 0);
        due("leastSupports() when 1 is enough", x.leastSupports(), 3);
        x.rule(0, 0);
        due("leastSupports() from nothing", x.leastSupports(), 1);
        due("goal(9)", x.goal(9), 0);
        due("leastSupports() out of reach", x.leastSupports(), 0);

        // One fact of each pair is needed: 0 or 8, 5 or 9, 6 or 10, 7 or 11.
        AttackGraph y = new AttackGraph();
        for (int f = 4; f < 12; f++) {
            y.give(f, 1);
            y.rule(set(f), f % 4);
        }
        y.take(4);
        y.take(8);
        y.give(0, 1);
        y.goal(4);
        y.rule(set(0, 1, 2, 3), 4);
        due("leastSupports() of three pairs and fact 0", y.leastSupports(), 8);
        y.give(8, 1);
        due("leastSupports() of four pairs", y.leastSupports(), 16);
    }

    private static void promise12CheapestSupport() {
        AttackGraph x = twoWays();
        due("cheapestSupport()", x.cheapestSupport(), 6);
        x.give(3, 8);
        due("cheapestSupport()", x.cheapestSupport(), 7);
        x.give(3, 7);
        due("cheapestSupport() of equals", x.cheapestSupport(), 7);
        x.take(1);
        x.take(3);
        due("cheapestSupport() of none", x.cheapestSupport(), NONE);
        x.rule(0, 0);
        due("cheapestSupport() from nothing", x.cheapestSupport(), 0);

        AttackGraph y = allEight(20);
        due("cheapestSupport() of all", y.cheapestSupport(), 160);
    }

    // Goal 0 from the facts 4 to 11 all together, at a price each.
    private static AttackGraph allEight(int price) {
        AttackGraph x = new AttackGraph();
        for (int f = 4; f < 12; f++) {
            x.give(f, price);
        }
        x.rule(4080, 0);
        return x;
    }

    // Goal 0 from each of the facts 4 to 11 alone, at a price each.
    private static AttackGraph anyOfEight(int price) {
        AttackGraph x = new AttackGraph();
        for (int f = 4; f < 12; f++) {
            x.give(f, price);
            x.rule(set(f), 0);
        }
        return x;
    }

    private static void promise13CheapestShield() {
        AttackGraph x = twoWays();
        due("cheapestShield()", x.cheapestShield(), 9);
        x.give(1, 5);
        due("cheapestShield()", x.cheapestShield(), 10);
        x.goal(9);
        due("cheapestShield() of a goal out of reach", x.cheapestShield(), 0);
        x.rule(0, 9);
        due("cheapestShield() from nothing", x.cheapestShield(), NONE);
        due("cheapestShield() of all", anyOfEight(20).cheapestShield(), 160);
        due("cheapestShield() of one", allEight(20).cheapestShield(), 20);

        // One dear fact against three cheap ones.
        AttackGraph y = new AttackGraph();
        y.give(1, 10);
        y.give(2, 3);
        y.give(3, 3);
        y.give(4, 3);
        y.rule(set(1, 2), 0);
        y.rule(set(1, 3), 0);
        y.rule(set(1, 4), 0);
        due("cheapestShield() of three", y.cheapestShield(), 9);
        y.give(1, 8);
        due("cheapestShield() of one", y.cheapestShield(), 8);
    }

    private static void promise14Shield() {
        AttackGraph x = twoWays();
        due("shield()", x.shield(), set(1, 3));
        x.give(1, 5);
        due("shield()", x.shield(), set(2, 3));
        x.give(1, 4);
        due("shield() of equals is the least number", x.shield(), set(1, 3));
        x.goal(9);
        due("shield() of a goal out of reach", x.shield(), 0);
        x.rule(0, 9);
        due("shield() from nothing", x.shield(), NONE);
        due("shield() of all", anyOfEight(1).shield(), 4080);
        due("shield() of one", allEight(7).shield(), set(4));

        // {1, 2} is the lesser number, though {3} is the smaller set.
        AttackGraph y = new AttackGraph();
        y.give(1, 2);
        y.give(2, 3);
        y.give(3, 5);
        y.rule(set(1, 3), 0);
        y.rule(set(2, 3), 0);
        due("shield() of equals with more facts", y.shield(), set(1, 2));
        due("smallestShield() there", y.smallestShield(), 1);
    }

    private static void promise15SmallestShield() {
        AttackGraph x = twoWays();
        due("smallestShield()", x.smallestShield(), 2);
        x.take(3);
        due("smallestShield()", x.smallestShield(), 1);
        x.take(2);
        due("smallestShield() of a goal out of reach", x.smallestShield(), 0);
        x.rule(0, 0);
        due("smallestShield() from nothing", x.smallestShield(), NONE);
        due("smallestShield() of all", anyOfEight(3).smallestShield(), 8);

        // The smallest is not the cheapest.
        AttackGraph y = new AttackGraph();
        y.give(1, 20);
        y.give(2, 1);
        y.give(3, 1);
        y.rule(set(1, 2), 0);
        y.rule(set(1, 3), 0);
        due("smallestShield() is dear", y.smallestShield(), 1);
        due("shield() there", y.shield(), set(2, 3));
    }

    private static void promise16Vital() {
        AttackGraph x = twoWays();
        due("vital() of two ways", x.vital(), 0);
        x.take(3);
        due("vital() of one way", x.vital(), set(1, 2));
        x.give(5, 1);
        due("vital() has no idle fact", x.vital(), set(1, 2));
        x.take(1);
        due("vital() of no support", x.vital(), 0);
        x.give(1, 1);
        x.rule(0, 0);
        due("vital() from nothing", x.vital(), 0);
        due("vital() of all", allEight(2).vital(), 4080);

        AttackGraph y = new AttackGraph();
        y.give(1, 1);
        y.give(2, 1);
        y.give(3, 1);
        y.rule(set(1, 2), 0);
        y.rule(set(2, 3), 0);
        due("vital() of what two ways share", y.vital(), set(2));

        AttackGraph z = new AttackGraph();
        z.give(0, 1);
        due("vital() of the goal itself", z.vital(), set(0));
        z.rule(0, 0);
        due("vital() of one fact and the empty support", z.vital(), 0);
    }

    private static void promise17Useful() {
        AttackGraph x = twoWays();
        due("useful()", x.useful(), set(1, 2, 3));
        x.give(5, 1);
        due("useful() has no idle fact", x.useful(), set(1, 2, 3));
        x.rule(set(1), 0);
        due("useful() has no fact that is needed beside an enough one", x.useful(), set(1, 3));
        x.rule(0, 0);
        due("useful() from nothing", x.useful(), 0);
        x.goal(9);
        due("useful() of no support", x.useful(), 0);
        due("useful() of any", anyOfEight(1).useful(), 4080);
        due("useful() of all", allEight(1).useful(), 4080);
    }

    private static void promise18ShieldWith() {
        AttackGraph x = twoWays();
        for (int f : NO_FACTS) {
            due("shieldWith(" + f + ")", x.shieldWith(f), BAD_ARG);
        }
        due("shieldWith(1)", x.shieldWith(1), 9);
        due("shieldWith(2)", x.shieldWith(2), 10);
        due("shieldWith(3)", x.shieldWith(3), 9);
        due("shieldWith(0), the goal, not given", x.shieldWith(0), NONE);
        due("shieldWith(4), reached, not given", x.shieldWith(4), NONE);
        x.give(11, 20);
        due("shieldWith(11), an idle fact", x.shieldWith(11), 29);
        x.take(3);
        x.take(2);
        due("shieldWith(1) of a goal out of reach", x.shieldWith(1), 3);
        due("shieldWith(2), taken", x.shieldWith(2), NONE);
        x.rule(0, 0);
        due("shieldWith(1) from nothing", x.shieldWith(1), NONE);
        due("shieldWith(12) from nothing", x.shieldWith(12), BAD_ARG);
        due("shieldWith(4) of all", anyOfEight(20).shieldWith(4), 160);
        due("shieldWith(11) of one", allEight(6).shieldWith(11), 6);
        due("shieldWith(7) at the least price", allEight(1).shieldWith(7), 1);
    }

    private static void questionsChangeNothing() {
        AttackGraph x = twoWays();
        String before = told(x);
        for (int k = 0; k < 3; k++) {
            x.supports(set(1));
            x.supports(4096);
            unchanged("asking", before, x);
        }
    }

    // The same calls as in README.md, so that what it shows stays true.
    private static void exampleOfTheReadme() {
        AttackGraph g = new AttackGraph();
        due("README: give(1, 3)", g.give(1, 3), 0);
        due("README: give(2, 4)", g.give(2, 4), 0);
        due("README: give(3, 6)", g.give(3, 6), 0);
        due("README: rule(6, 0)", g.rule(6, 0), 0);
        due("README: rule(8, 0)", g.rule(8, 0), 1);
        due("README: goal(0)", g.goal(0), 0);
        due("README: reached()", g.reached(), 15);
        due("README: supports(6)", g.supports(6), true);
        due("README: leastSupports()", g.leastSupports(), 2);
        due("README: cheapestSupport()", g.cheapestSupport(), 6);
        due("README: cheapestShield()", g.cheapestShield(), 9);
        due("README: shield()", g.shield(), 10);
        due("README: smallestShield()", g.smallestShield(), 2);
        due("README: vital()", g.vital(), 0);
        due("README: useful()", g.useful(), 14);
        due("README: shieldWith(2)", g.shieldWith(2), 10);
        due("README: take(3)", g.take(3), 6);
        due("README: vital() then", g.vital(), 6);
        due("README: take(3) again", g.take(3), NONE);
        due("README: give(12, 1)", g.give(12, 1), BAD_ARG);
    }

    public static void main(String[] args) {
        promise1NewObject();
        promise2Give();
        promise3Take();
        promise4Rule();
        promise5Unrule();
        promise6Rules();
        promise7Goal();
        promise8Given();
        promise9Reached();
        promise10Supports();
        promise11LeastSupports();
        promise12CheapestSupport();
        promise13CheapestShield();
        promise14Shield();
        promise15SmallestShield();
        promise16Vital();
        promise17Useful();
        promise18ShieldWith();
        questionsChangeNothing();
        exampleOfTheReadme();
        System.out.println(asked + " answers looked at, " + wrong + " wrong");
        if (wrong != 0) {
            System.exit(1);
        }
    }
}
