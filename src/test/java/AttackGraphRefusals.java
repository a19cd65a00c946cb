import java.util.ArrayList;
import java.util.List;

// "No call ever throws. A refused call answers the code named and changes nothing.": every refusal that the document
// names, in objects from empty to full, with what all the other calls show before it and after it.
public final class AttackGraphRefusals {
    private static final int BAD_ARG = -1;
    private static final int FULL = -2;
    private static final int NONE = -4;
    private static final int FALSE = 0;

    private static final int LEAST = Integer.MIN_VALUE;
    private static final int GREATEST = Integer.MAX_VALUE;

    // 32 to 43 and -32 to -21 are facts again where only the low bits of a shift count.
    private static final int[] NO_FACTS = {-1, 12, 32, 43, -20, LEAST, GREATEST};
    private static final int[] NO_PRICES = {0, 21, -1, LEAST, GREATEST};
    private static final int[] NO_SETS = {-1, 4096, 4097, -4096, LEAST, GREATEST};

    // The objects in which the calls are tried, each with its given facts and its number of rules.
    private enum State {
        NEW(0, 0), TWO_WAYS(14, 3), GOAL_FROM_NOTHING(14, 5), GOAL_OUT_OF_REACH(14, 3), ALL_FULL(4080, 14),
        ALL_BUT_FULL(4064, 13), FULL_AND_LEFT_AGAIN(2032, 13), FACTS_ALONE(4080, 0), RULES_ALONE(0, 14);

        private final int given;
        private final int rules;

        State(int given, int rules) {
            this.given = given;
            this.rules = rules;
        }
    }

    private static final String[] WITH_NONE = {"unrule", "rules", "given", "reached", "leastSupports",
        "cheapestSupport", "cheapestShield", "shield", "smallestShield", "vital", "useful"};
    private static final String[] WITH_ONE = {"take", "goal", "supports", "shieldWith"};
    private static final String[] WITH_TWO = {"give", "rule"};

    private static int looked = 0;
    private static int wrong = 0;

    private record Call(String kind, int a, int b) {
        int on(AttackGraph x) {
            return switch (kind) {
                case "give" -> x.give(a, b);
                case "take" -> x.take(a);
                case "rule" -> x.rule(a, b);
                case "unrule" -> x.unrule();
                case "rules" -> x.rules();
                case "goal" -> x.goal(a);
                case "given" -> x.given();
                case "reached" -> x.reached();
                case "supports" -> x.supports(a) ? 1 : 0;
                case "leastSupports" -> x.leastSupports();
                case "cheapestSupport" -> x.cheapestSupport();
                case "cheapestShield" -> x.cheapestShield();
                case "shield" -> x.shield();
                case "smallestShield" -> x.smallestShield();
                case "vital" -> x.vital();
                case "useful" -> x.useful();
                default -> x.shieldWith(a);
            };
        }

        @Override
        public String toString() {
            return switch (kind) {
                case "give", "rule" -> kind + "(" + a + ", " + b + ")";
                case "take", "goal", "supports", "shieldWith" -> kind + "(" + a + ")";
                default -> kind + "()";
            };
        }
    }

    private static void fault(String what) {
        wrong++;
        System.out.println("[A refused call answers the code named and changes nothing.] " + what);
    }

    private static int set(int... facts) {
        int set = 0;
        for (int f : facts) {
            set |= 1 << f;
        }
        return set;
    }

    private static AttackGraph made(State state) {
        AttackGraph x = new AttackGraph();
        switch (state) {
            case NEW -> { }
            case TWO_WAYS -> makeTwoWays(x);
            case GOAL_FROM_NOTHING -> {
                makeTwoWays(x);
                x.rule(0, 7);
                x.rule(set(7), 0);
            }
            case GOAL_OUT_OF_REACH -> {
                makeTwoWays(x);
                x.goal(9);
            }
            case FULL_AND_LEFT_AGAIN -> {
                makeLarge(x, 8, 14);
                x.take(11);
                x.unrule();
            }
            default -> makeLarge(x, Integer.bitCount(state.given), state.rules);
        }
        return x;
    }

    private static void madeAsDue(State state) {
        AttackGraph x = made(state);
        looked++;
        if (x.given() != state.given || x.rules() != state.rules) {
            fault("the object " + state + " has not its given facts and rules");
        }
    }

    // Goal 0 from facts 1 and 2 together, or from 3 alone.
    private static void makeTwoWays(AttackGraph x) {
        x.give(1, 3);
        x.give(2, 4);
        x.give(3, 6);
        x.rule(set(1, 2), 4);
        x.rule(set(4), 0);
        x.rule(set(3), 0);
    }

    // All prices differ, the least and the greatest among them. No two rules have the same needs, so that each makes
    // a difference for some goal.
    private static void makeLarge(AttackGraph x, int facts, int rules) {
        int[] prices = {1, 20, 3, 5, 7, 11, 13, 17};
        for (int k = 0; k < facts; k++) {
            x.give(11 - k, prices[k]);
        }
        for (int r = 0; r < rules; r++) {
            x.rule(set(4 + r % 8, 4 + (r * 3 + 1 + r / 8 * 2) % 8), r % 4);
        }
        x.goal(3);
    }

    // What the questions show, for each goal: 162 calls, so that twice that, and taking apart, stays within 512.
    private static List<Integer> shown(AttackGraph x) {
        List<Integer> shown = new ArrayList<>();
        int goal = x.goal(0);
        shown.add(goal);
        shown.add(x.rules());
        shown.add(x.given());
        shown.add(x.reached());
        for (int f = 0; f < 12; f++) {
            shown.add(x.goal(f));
            shown.add(x.supports(4095) ? 1 : 0);
            shown.add(x.supports(1365) ? 1 : 0);
            shown.add(x.leastSupports());
            shown.add(x.cheapestSupport());
            shown.add(x.cheapestShield());
            shown.add(x.shield());
            shown.add(x.smallestShield());
            shown.add(x.vital());
            shown.add(x.useful());
        }
        shown.add(x.goal(goal));
        for (int f = 0; f < 12; f++) {
            shown.add(x.shieldWith(f));
            shown.add(x.supports(1 << f) ? 1 : 0);
            shown.add(x.supports(4095 - (1 << f)) ? 1 : 0);
        }
        shown.add(x.supports(0) ? 1 : 0);
        return shown;
    }

    // What the changing calls answer while they take the object apart, and what is left after each: 87 calls.
    private static List<Integer> takenApart(AttackGraph x) {
        List<Integer> told = new ArrayList<>();
        told.add(x.rule(0, 11));
        for (int r = 0; r < 16; r++) {
            told.add(x.unrule());
            told.add(x.reached());
            told.add(x.leastSupports());
        }
        told.add(x.rule(0, 11));
        for (int f = 0; f < 12; f++) {
            told.add(x.give(f, 20));
        }
        for (int f = 0; f < 12; f++) {
            told.add(x.take(f));
            told.add(x.given());
        }
        told.add(x.goal(0));
        return told;
    }

    private static void refused(State state, int code, String kind, int a, int b) {
        Call call = new Call(kind, a, b);
        String where = "in the object " + state + " " + call;
        looked++;
        try {
            AttackGraph x = made(state);
            List<Integer> before = shown(x);
            int got = call.on(x);
            if (got != code) {
                fault(where + " answered " + got + ", due is " + code);
            }
            if (!before.equals(shown(x))) {
                fault(where + " changed what the questions show");
            }
            if (!takenApart(made(state)).equals(takenApart(x))) {
                fault(where + " changed what the changing calls answer");
            }
            refusedAtOnce(state, call, where);
        } catch (RuntimeException | StackOverflowError e) {
            fault(where + " threw " + e);
        }
    }

    // The refused call comes before any question, twice, so that nothing stands between the making and it.
    private static void refusedAtOnce(State state, Call call, String where) {
        AttackGraph x = made(state);
        int first = call.on(x);
        int second = call.on(x);
        if (first != second) {
            fault(where + " answered " + first + " and then " + second);
        }
        if (!shown(made(state)).equals(shown(x))) {
            fault(where + " changed what the questions show, as the first call");
        }
    }

    private static void refusedRanges(State state) {
        for (int f : NO_FACTS) {
            refused(state, BAD_ARG, "give", f, 1);
            refused(state, BAD_ARG, "take", f, 0);
            refused(state, BAD_ARG, "rule", 0, f);
            refused(state, BAD_ARG, "goal", f, 0);
            refused(state, BAD_ARG, "shieldWith", f, 0);
        }
        for (int price : NO_PRICES) {
            refused(state, BAD_ARG, "give", 0, price);
            refused(state, BAD_ARG, "give", 1, price);
            refused(state, BAD_ARG, "give", 11, price);
            refused(state, BAD_ARG, "give", 12, price);
        }
        for (int set : NO_SETS) {
            refused(state, BAD_ARG, "rule", set, 0);
            refused(state, BAD_ARG, "rule", set, 11);
            refused(state, BAD_ARG, "rule", set, 12);
            refused(state, FALSE, "supports", set, 0);
        }
    }

    private static void refusedLimits(State state) {
        for (int f = 0; f < 12; f++) {
            if ((state.given >> f & 1) == 0) {
                refused(state, NONE, "take", f, 0);
                refused(state, NONE, "shieldWith", f, 0);
                if (Integer.bitCount(state.given) == 8) {
                    refused(state, FULL, "give", f, 1);
                    refused(state, FULL, "give", f, 20);
                }
            }
        }
        if (state.rules == 0) {
            refused(state, NONE, "unrule", 0, 0);
        }
        if (state.rules == 14) {
            refused(state, FULL, "rule", 0, 0);
            refused(state, FULL, "rule", 0, 11);
            refused(state, FULL, "rule", 4095, 11);
        }
    }

    // The calls that have no such thing to answer.
    private static void refusedQuestions() {
        for (String kind : new String[] {"cheapestShield", "shield", "smallestShield"}) {
            refused(State.GOAL_FROM_NOTHING, NONE, kind, 0, 0);
        }
        for (int f = 1; f <= 3; f++) {
            refused(State.GOAL_FROM_NOTHING, NONE, "shieldWith", f, 0);
        }
        for (State state : new State[] {State.NEW, State.GOAL_OUT_OF_REACH, State.FACTS_ALONE, State.RULES_ALONE}) {
            refused(state, NONE, "cheapestSupport", 0, 0);
        }
    }

    private static void noQuestionChanges(State state) {
        for (String kind : WITH_NONE) {
            if (!kind.equals("unrule")) {
                unchanging(state, kind, 0);
            }
        }
        for (int f = 0; f < 12; f++) {
            unchanging(state, "shieldWith", f);
            unchanging(state, "supports", 1 << f);
        }
    }

    private static void unchanging(State state, String kind, int a) {
        int answer = new Call(kind, a, 0).on(made(state));
        refused(state, answer, kind, a, 0);
    }

    private static void noCallThrows(State state) {
        int[] numbers = {LEAST, LEAST + 1, -65536, -4096, -32, -21, -1, 0, 1, 8, 11, 12, 14, 20, 21, 31, 32, 43, 255,
            4095, 4096, 65536, GREATEST - 1, GREATEST};
        for (String kind : WITH_NONE) {
            callTwice(state, new Call(kind, 0, 0));
        }
        for (int a : numbers) {
            for (String kind : WITH_ONE) {
                callTwice(state, new Call(kind, a, 0));
            }
            for (int b : numbers) {
                for (String kind : WITH_TWO) {
                    callTwice(state, new Call(kind, a, b));
                }
            }
        }
    }

    private static void callTwice(State state, Call call) {
        looked++;
        try {
            AttackGraph x = made(state);
            call.on(x);
            call.on(x);
        } catch (RuntimeException | StackOverflowError e) {
            wrong++;
            System.out.println("[No call ever throws.] in the object " + state + " " + call + " threw " + e);
        }
    }

    // Beyond the limits and below nothing, many times: no call may throw there either.
    private static void noRunThrows() {
        looked++;
        try {
            AttackGraph x = new AttackGraph();
            for (int k = 0; k < 40; k++) {
                x.unrule();
                x.take(k % 12);
            }
            for (int k = 0; k < 40; k++) {
                x.rule(k * 101 % 4096, k % 12);
                x.give(k % 12, 1 + k % 20);
                x.goal(k % 12);
                shownOnce(x);
            }
            for (int k = 0; k < 20; k++) {
                x.unrule();
            }
        } catch (RuntimeException | StackOverflowError e) {
            wrong++;
            System.out.println("[No call ever throws.] a long run threw " + e);
        }
    }

    private static void shownOnce(AttackGraph x) {
        x.shield();
        x.useful();
        x.vital();
        x.cheapestSupport();
        x.smallestShield();
    }

    public static void main(String[] args) {
        for (State state : State.values()) {
            madeAsDue(state);
            refusedRanges(state);
            refusedLimits(state);
            noQuestionChanges(state);
            noCallThrows(state);
        }
        refusedQuestions();
        noRunThrows();
        System.out.println(looked + " calls looked at, " + wrong + " faults");
        if (wrong != 0) {
            System.exit(1);
        }
    }
}
