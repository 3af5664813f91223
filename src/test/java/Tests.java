import java.lang.reflect.InvocationTargetException;
import java.lang.reflect.Method;
import java.lang.reflect.Modifier;
import java.util.Arrays;
import java.util.Comparator;

/** Runs every test method of the project: PASS or FAIL of each, and how many at the end. */
public final class Tests {
    static final Class<?>[] GROUPS = {
        PromiseTests.class, FaultTests.class, EdgesOfNets.class, EdgesOfTexts.class, EdgesOfRules.class, EdgesOfSets.class,
        EdgesOfNumbers.class, EdgesOfPonds.class, EdgesOfMarkets.class, EdgesOfCalls.class, DocTests.class, WidthTests.class,
        RuleTests.class, RandomTests.class
    };

    /** The class's own file, for what RuleTests reads in it, and the document, for DocTests. */
    static String source = "src/main/java/MeshWaters.java";
    static String document = "../shared/DOC.md";

    private Tests() {
    }

    public static void main(String[] args) {
        if (args.length > 0) {
            source = args[0];
        }
        int ran = 0;
        for (Class<?> group : GROUPS) {
            Method[] methods = group.getDeclaredMethods();
            Arrays.sort(methods, Comparator.comparing(Method::getName));
            for (Method method : methods) {
                if (isTest(method)) {
                    System.out.println(run(group, method));
                    ran++;
                }
            }
        }
        System.out.println("TESTS " + ran);
    }

    private static boolean isTest(Method method) {
        return Modifier.isStatic(method.getModifiers()) && !Modifier.isPrivate(method.getModifiers())
            && method.getParameterCount() == 0 && !method.isSynthetic();
    }

    private static String run(Class<?> group, Method method) {
        String name = group.getSimpleName() + "." + method.getName();
        try {
            method.invoke(null);
            return "PASS " + name;
        } catch (InvocationTargetException e) {
            return "FAIL " + name + ": " + e.getCause();
        } catch (IllegalAccessException e) {
            return "FAIL " + name + ": " + e;
        }
    }
}
