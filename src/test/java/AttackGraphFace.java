import java.lang.reflect.Constructor;
import java.lang.reflect.Field;
import java.lang.reflect.Method;
import java.lang.reflect.Modifier;
import java.util.Arrays;
import java.util.Set;
import java.util.TreeSet;

// The class shows the members of the document's public face and no others.
public final class AttackGraphFace {
    private static final String[] FACE = {
        "public static final int BAD_ARG = -1",
        "public static final int FULL = -2",
        "public static final int NONE = -4",
        "public AttackGraph()",
        "public int give(int, int)",
        "public int take(int)",
        "public int rule(int, int)",
        "public int unrule()",
        "public int rules()",
        "public int goal(int)",
        "public int given()",
        "public int reached()",
        "public boolean supports(int)",
        "public int leastSupports()",
        "public int cheapestSupport()",
        "public int cheapestShield()",
        "public int shield()",
        "public int smallestShield()",
        "public int vital()",
        "public int useful()",
        "public int shieldWith(int)",
    };

    private static String line(int modifiers, String rest) {
        String shown = Modifier.toString(modifiers);
        return shown.isEmpty() ? rest : shown + " " + rest;
    }

    private static String arguments(Class<?>[] types) {
        StringBuilder s = new StringBuilder("(");
        for (int i = 0; i < types.length; i++) {
            s.append(i == 0 ? "" : ", ").append(types[i].getSimpleName());
        }
        return s.append(")").toString();
    }

    private static Set<String> shownMembers() throws IllegalAccessException {
        Set<String> shown = new TreeSet<>();
        for (Field f : AttackGraph.class.getDeclaredFields()) {
            int m = f.getModifiers();
            if (!Modifier.isPrivate(m)) {
                String value = Modifier.isStatic(m) ? " = " + f.get(null) : "";
                shown.add(line(m, f.getType().getSimpleName() + " " + f.getName() + value));
            }
        }
        for (Constructor<?> c : AttackGraph.class.getDeclaredConstructors()) {
            shown.add(line(c.getModifiers(), "AttackGraph" + arguments(c.getParameterTypes())));
        }
        for (Method f : AttackGraph.class.getDeclaredMethods()) {
            if (!Modifier.isPrivate(f.getModifiers())) {
                String rest = f.getReturnType().getSimpleName() + " " + f.getName() + arguments(f.getParameterTypes());
                shown.add(line(f.getModifiers(), rest));
            }
        }
        return shown;
    }

    public static void main(String[] args) throws IllegalAccessException {
        int wrong = 0;
        if (AttackGraph.class.getModifiers() != (Modifier.PUBLIC | Modifier.FINAL)) {
            wrong++;
            System.out.println("the class is not public and final");
        }
        if (AttackGraph.class.getDeclaredClasses().length != 0) {
            wrong++;
            System.out.println("the class has a class inside");
        }
        Set<String> due = new TreeSet<>(Arrays.asList(FACE));
        Set<String> shown = shownMembers();
        for (String member : due) {
            if (!shown.contains(member)) {
                wrong++;
                System.out.println("missing: " + member);
            }
        }
        for (String member : shown) {
            if (!due.contains(member)) {
                wrong++;
                System.out.println("not in the document: " + member);
            }
        }
        System.out.println(due.size() + " members looked for, " + wrong + " wrong");
        if (wrong != 0) {
            System.exit(1);
        }
    }
}
