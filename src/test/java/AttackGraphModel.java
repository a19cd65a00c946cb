import java.util.ArrayList;
import java.util.List;
import java.util.TreeMap;

// Long generated runs, compared with a slow model that follows the words of the document and shares no way of
// working with the class: what is reached is the intersection of all sets that the rules leave as they are.
public final class AttackGraphModel {
    private static final int BAD_ARG = -1;
    private static final int FULL = -2;
    private static final int NONE = -4;
    private static final int RUNS = 120;
    private static final int CALLS = 512;

    private final TreeMap<Integer, Integer> prices = new TreeMap<>();
    private final List<int[]> rules = new ArrayList<>();
    private int goal = 0;

    private static boolean fact(int f) {
        return 0 <= f && f <= 11;
    }

    private static boolean set(int s) {
        return 0 <= s && s <= 4095;
    }

    private int give(int f, int price) {
        if (!fact(f) || !(1 <= price && price <= 20)) return BAD_ARG;
        if (!prices.containsKey(f) && prices.size() == 8) return FULL;
        Integer before = prices.put(f, price);
        return before == null ? 0 : before;
    }

    private int take(int f) {
        if (!fact(f)) return BAD_ARG;
        Integer before = prices.remove(f);
        return before == null ? NONE : before;
    }

    private int rule(int needs, int yield) {
        if (!set(needs) || !fact(yield)) return BAD_ARG;
        if (rules.size() == 14) return FULL;
        rules.add(new int[] {needs, yield});
        return rules.size() - 1;
    }

    private int unrule() {
        if (rules.isEmpty()) return NONE;
        rules.remove(rules.size() - 1);
        return rules.size();
    }

    private int goal(int f) {
        if (!fact(f)) return BAD_ARG;
        int before = goal;
        goal = f;
        return before;
    }

    private int given() {
        int s = 0;
        for (int f : prices.keySet()) s |= 1 << f;
        return s;
    }

    private boolean closed(int s) {
        for (int[] r : rules) {
            if ((s & r[0]) == r[0] && (s & (1 << r[1])) == 0) return false;
        }
        return true;
    }

    private List<Integer> closedSets() {
        List<Integer> all = new ArrayList<>();
        for (int s = 0; s < 4096; s++) {
            if (closed(s)) all.add(s);
        }
        return all;
    }

    private static int reached(int from, List<Integer> closedSets) {
        int common = 4095;
        for (int s : closedSets) {
            if ((s & from) == from) common &= s;
        }
        return common;
    }

    private static boolean part(int a, int b) {
        return (a | b) == b;
    }

    private List<Integer> parts(int whole) {
        List<Integer> all = new ArrayList<>();
        for (int s = 0; s < 4096; s++) {
            if (part(s, whole)) all.add(s);
        }
        return all;
    }

    private boolean holdsGoal(int from, List<Integer> closedSets) {
        return (reached(from, closedSets) >> goal & 1) == 1;
    }

    private List<Integer> supports() {
        List<Integer> closedSets = closedSets();
        List<Integer> all = new ArrayList<>();
        for (int s : parts(given())) {
            if (holdsGoal(s, closedSets)) all.add(s);
        }
        return all;
    }

    private List<Integer> leastSupports() {
        List<Integer> supports = supports();
        List<Integer> least = new ArrayList<>();
        for (int s : supports) {
            boolean smaller = false;
            for (int t : supports) smaller |= t != s && part(t, s);
            if (!smaller) least.add(s);
        }
        return least;
    }

    private List<Integer> shields() {
        List<Integer> closedSets = closedSets();
        List<Integer> all = new ArrayList<>();
        for (int s : parts(given())) {
            if (!holdsGoal(given() - s, closedSets)) all.add(s);
        }
        return all;
    }

    private int cost(int s) {
        int sum = 0;
        for (int f : prices.keySet()) sum += (s >> f & 1) * prices.get(f);
        return sum;
    }

    private int leastCost(List<Integer> sets) {
        return sets.stream().mapToInt(this::cost).min().orElse(NONE);
    }

    private int shield() {
        List<Integer> shields = shields();
        int least = leastCost(shields);
        return shields.stream().filter(s -> cost(s) == least).mapToInt(s -> s).min().orElse(NONE);
    }

    private int smallestShield() {
        return shields().stream().mapToInt(Integer::bitCount).min().orElse(NONE);
    }

    private int vital() {
        List<Integer> supports = supports();
        return supports.isEmpty() ? 0 : supports.stream().reduce(given(), (a, b) -> a & b);
    }

    private int useful() {
        return leastSupports().stream().reduce(0, (a, b) -> a | b);
    }

    private int shieldWith(int f) {
        if (!fact(f)) return BAD_ARG;
        if (!prices.containsKey(f)) return NONE;
        List<Integer> having = new ArrayList<>(shields());
        having.removeIf(s -> (s >> f & 1) == 0);
        return leastCost(having);
    }

    private boolean supports(int s) {
        return set(s) && holdsGoal(s & given(), closedSets());
    }

    private static long seed = 20261115L;

    private static int pick(int bound) {
        seed = seed * 6364136223846793005L + 1442695040888963407L;
        return (int) ((seed >>> 33) % bound);
    }

    private static final int[] ODD = {-1, 12, 21, 32, 4096, 4097, -4096, Integer.MIN_VALUE, Integer.MAX_VALUE};

    private static int anyFact() {
        return pick(25) == 0 ? ODD[pick(ODD.length)] : pick(12);
    }

    private static int anyPrice() {
        return pick(25) == 0 ? ODD[pick(ODD.length)] : pick(3) == 0 ? 1 + pick(20) : 1 + pick(4);
    }

    private static int anyNeeds() {
        if (pick(25) == 0) return ODD[pick(ODD.length)];
        if (pick(40) == 0) return 0;
        int s = 1 << pick(12);
        for (int more = pick(3); more > 0; more--) s |= 1 << pick(12);
        return s;
    }

    private static int anySet() {
        return pick(15) == 0 ? ODD[pick(ODD.length)] : pick(4096);
    }

    private static int wrong = 0;

    private static void due(int run, int call, String what, long got, long want) {
        if (got != want) {
            wrong++;
            System.out.println("run " + run + ", call " + call + ": " + what + " answered " + got + ", due is " + want);
        }
    }

    // Different runs change their objects at different rates, so that some stay full and some nearly empty.
    private static void run(int run) {
        AttackGraph x = new AttackGraph();
        AttackGraphModel m = new AttackGraphModel();
        int takes = 1 + run % 4;
        int unrules = 1 + run / 4 % 4;
        for (int call = 1; call <= CALLS; call++) {
            int kind = pick(26 + takes + unrules);
            if (kind >= 26) {
                removal(run, call, kind - 26 < takes, x, m);
            } else if (kind < 10) {
                change(run, call, kind, x, m);
            } else {
                question(run, call, kind - 10, x, m);
            }
        }
    }

    private static void removal(int run, int call, boolean take, AttackGraph x, AttackGraphModel m) {
        if (take) {
            int f = anyFact();
            due(run, call, "take(" + f + ")", x.take(f), m.take(f));
        } else {
            due(run, call, "unrule()", x.unrule(), m.unrule());
        }
    }

    private static void change(int run, int call, int kind, AttackGraph x, AttackGraphModel m) {
        int f = anyFact();
        if (kind < 4) {
            int price = anyPrice();
            due(run, call, "give(" + f + ", " + price + ")", x.give(f, price), m.give(f, price));
        } else if (kind < 8) {
            int needs = anyNeeds();
            due(run, call, "rule(" + needs + ", " + f + ")", x.rule(needs, f), m.rule(needs, f));
        } else {
            due(run, call, "goal(" + f + ")", x.goal(f), m.goal(f));
        }
    }

    private static void question(int run, int call, int kind, AttackGraph x, AttackGraphModel m) {
        int f = anyFact();
        int s = anySet();
        switch (kind) {
            case 0 -> due(run, call, "rules()", x.rules(), m.rules.size());
            case 1 -> due(run, call, "given()", x.given(), m.given());
            case 2 -> due(run, call, "reached()", x.reached(), reached(m.given(), m.closedSets()));
            case 3, 4 -> due(run, call, "supports(" + s + ")", x.supports(s) ? 1 : 0, m.supports(s) ? 1 : 0);
            case 5, 6 -> due(run, call, "leastSupports()", x.leastSupports(), m.leastSupports().size());
            case 7 -> due(run, call, "cheapestSupport()", x.cheapestSupport(), m.leastCost(m.supports()));
            case 8 -> due(run, call, "cheapestShield()", x.cheapestShield(), m.leastCost(m.shields()));
            case 9, 10 -> due(run, call, "shield()", x.shield(), m.shield());
            case 11 -> due(run, call, "smallestShield()", x.smallestShield(), m.smallestShield());
            case 12 -> due(run, call, "vital()", x.vital(), m.vital());
            case 13 -> due(run, call, "useful()", x.useful(), m.useful());
            default -> due(run, call, "shieldWith(" + f + ")", x.shieldWith(f), m.shieldWith(f));
        }
    }

    public static void main(String[] args) {
        for (int run = 1; run <= RUNS && wrong < 20; run++) {
            run(run);
        }
        System.out.println(RUNS + " runs of " + CALLS + " calls, " + wrong + " answers wrong");
        if (wrong != 0) {
            System.exit(1);
        }
    }
}
