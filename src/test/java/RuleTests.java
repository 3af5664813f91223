import java.io.IOException;
import java.lang.management.ManagementFactory;
import java.lang.reflect.Executable;
import java.lang.reflect.Field;
import java.lang.reflect.InvocationTargetException;
import java.lang.reflect.Method;
import java.lang.reflect.Modifier;
import java.nio.file.Files;
import java.nio.file.Path;
import java.util.ArrayList;
import java.util.Arrays;
import java.util.List;
import java.util.Random;
import java.util.TreeSet;
import java.util.regex.Matcher;
import java.util.regex.Pattern;

/** The face, the rules of LANGUAGE.md that a program can look at, and how much room a run takes. */
final class RuleTests {
    private RuleTests() {
    }

    private static void hold(String what, boolean held) {
        if (!held) {
            throw new AssertionError(what);
        }
    }

    private static String code() {
        try {
            return Files.readString(Path.of(Tests.source));
        } catch (IOException e) {
            throw new AssertionError(e);
        }
    }

    private static String codeWithoutComments() {
        return code().replaceAll("(?s)/\\*.*?\\*/", "").replaceAll("//[^\n]*", "");
    }

    /** The face as the document shows it, line by line, without "public" and without the names of parameters. */
    private static TreeSet<String> faceOfTheDocument() {
        TreeSet<String> face = new TreeSet<>();
        Matcher line = Pattern.compile("(?m)^    public ([^;]+);$").matcher(DocTests.document());
        while (line.find()) {
            face.add(line.group(1).replaceAll("(int|long|boolean) \\w+([,)])", "$1$2"));
        }
        return face;
    }

    private static TreeSet<String> namesOfTheFace() {
        TreeSet<String> names = new TreeSet<>();
        for (String line : faceOfTheDocument()) {
            names.add(line.replaceAll("\\(.*", "").replaceAll(".* ", ""));
        }
        return names;
    }

    private static String typesOf(Class<?>[] types) {
        StringBuilder all = new StringBuilder();
        for (Class<?> type : types) {
            all.append(all.length() > 0 ? ", " : "").append(type.getSimpleName());
        }
        return all.toString();
    }

    private static String lineOf(Executable call) {
        String name = call instanceof Method method ? method.getReturnType().getSimpleName() + " " + call.getName() : call.getName();
        String thrown = typesOf(call.getExceptionTypes());
        return name + "(" + typesOf(call.getParameterTypes()) + ")" + (thrown.isEmpty() ? "" : " throws " + thrown);
    }

    /** What each call answers, takes and is declared to throw, the constructor and the constant: as the document shows them, and no more. */
    static void theFace() throws IllegalAccessException {
        TreeSet<String> face = new TreeSet<>();
        List<Executable> calls = new ArrayList<>(Arrays.asList(MeshWaters.class.getDeclaredMethods()));
        calls.addAll(Arrays.asList(MeshWaters.class.getDeclaredConstructors()));
        for (Executable call : calls) {
            hold("public or private: " + call, Modifier.isPublic(call.getModifiers()) || Modifier.isPrivate(call.getModifiers()));
            if (Modifier.isPublic(call.getModifiers())) {
                face.add(lineOf(call));
            }
        }
        for (Field f : MeshWaters.class.getDeclaredFields()) {
            hold("public or private: " + f, Modifier.isPublic(f.getModifiers()) || Modifier.isPrivate(f.getModifiers()));
            if (Modifier.isPublic(f.getModifiers())) {
                String how = Modifier.toString(f.getModifiers() & ~Modifier.PUBLIC);
                face.add(how + " " + f.getType() + " " + f.getName() + " = " + f.getInt(null));
            }
        }
        hold("the face: " + face + " is not " + faceOfTheDocument(), face.equals(faceOfTheDocument()));
        hold("the constructor, the methods and the constant", face.size() == DocTests.PROMISES + 1);
        hold("final", Modifier.isFinal(MeshWaters.class.getModifiers()) && Modifier.isPublic(MeshWaters.class.getModifiers()));
    }

    static void classesInside() {
        Class<?>[] inside = MeshWaters.class.getDeclaredClasses();
        hold("how many classes", inside.length < 12);
        TreeSet<String> face = namesOfTheFace();
        for (Class<?> c : inside) {
            hold("static and not public: " + c, Modifier.isStatic(c.getModifiers()) && !Modifier.isPublic(c.getModifiers()));
            for (Method m : c.getDeclaredMethods()) {
                hold("a name of the face: " + m, !face.contains(m.getName()));
            }
        }
        for (Method m : MeshWaters.class.getDeclaredMethods()) {
            hold("a private name of the face: " + m, Modifier.isPublic(m.getModifiers()) || !face.contains(m.getName()));
        }
    }

    static void fields() {
        Class<?>[] all = Arrays.copyOf(MeshWaters.class.getDeclaredClasses(), MeshWaters.class.getDeclaredClasses().length + 1);
        all[all.length - 1] = MeshWaters.class;
        for (Class<?> c : all) {
            int own = 0;
            for (Field f : c.getDeclaredFields()) {
                boolean isStatic = Modifier.isStatic(f.getModifiers());
                hold("static and not final: " + f, !isStatic || Modifier.isFinal(f.getModifiers()) && f.getType().isPrimitive());
                own += isStatic ? 0 : 1;
            }
            hold("fields of " + c, own <= 20);
        }
    }

    static void methods() {
        String[] lines = codeWithoutComments().split("\n");
        Pattern head = Pattern.compile("^( +)(?:public |private |static |final )*[\\w\\[\\]]+ \\w+\\(([^)]*)\\)[^;]*\\{$");
        int begun = -1;
        String indent = "";
        for (int i = 0; i < lines.length; i++) {
            Matcher m = head.matcher(lines[i]);
            if (begun < 0 && m.matches()) {
                begun = i;
                indent = m.group(1);
                hold("parameters: " + lines[i], m.group(2).split(",").length <= 7);
            } else if (begun >= 0 && lines[i].equals(indent + "}")) {
                hold("lines: " + lines[begun], i - begun <= 60);
                begun = -1;
            }
        }
    }

    static void words() {
        String code = codeWithoutComments();
        hold("signs 1 to 127", code().chars().allMatch(c -> c >= 1 && c <= 127));
        for (String word : List.of("try", "catch", "finally", "synchronized", "assert", "instanceof", "enum", "record", "native", "var",
            "System", "Thread", "Object", "hashCode", "equals", "toString", "Exact", "Random", "package", "yield", "volatile", "double", "float")) {
            hold(word, !Pattern.compile("\\b" + word + "\\b").matcher(code).find());
        }
        for (String sign : List.of("->", "::", "@", "...")) {
            hold(sign, !code.contains(sign));
        }
        hold("one import", code.split("\nimport |^import ", -1).length == 2 && code.startsWith("import java.util.NoSuchElementException;"));
        Matcher library = Pattern.compile("\\b(Math|Long|Integer|String)\\.(\\w+)").matcher(code);
        while (library.find()) {
            hold(library.group(), List.of("max", "min", "bitCount").contains(library.group(2)));
        }
        hold("texts joined by +", !Pattern.compile("\"\\s*\\+|\\+\\s*\"").matcher(code).find());
    }

    /** Whatever is asked: an answer, or one of the exceptions that the document names. */
    static void noOtherException() {
        long[] edges = {Long.MIN_VALUE, Integer.MIN_VALUE, -1, 0, 1, 2, 3, 5, 7, 8, 9, 12, 13, 14, 20, 31, 40, 50, 59, 60, 61, 127, 200, 255,
            256, 300, 301, 500, 501, 999, 1000, 100000, 100001, 1000000000, 1000000001, Integer.MAX_VALUE, 1000000000000L, 1000000000001L,
            1000000000000000L, 1000000000000001L, Long.MAX_VALUE - 1, Long.MAX_VALUE};
        Random chance = new Random(12);
        for (int run = 0; run < 300; run++) {
            MeshWaters x = new MeshWaters();
            String text = new TextMaker(run).text();
            Check.sea(x, text);
            for (int call = 0; call < 500; call++) {
                Method[] methods = MeshWaters.class.getMethods();
                Method m = methods[chance.nextInt(methods.length)];
                if (m.getDeclaringClass() == MeshWaters.class) {
                    answers(x, m, edges, chance);
                }
            }
        }
    }

    private static void answers(MeshWaters x, Method m, long[] edges, Random chance) {
        Object[] arguments = new Object[m.getParameterCount()];
        for (int i = 0; i < arguments.length; i++) {
            long edge = edges[chance.nextInt(edges.length)];
            Class<?> type = m.getParameterTypes()[i];
            if (type == boolean.class) {
                arguments[i] = chance.nextBoolean();
            } else if (type == int.class) {
                arguments[i] = (int) edge;
            } else {
                arguments[i] = edge;
            }
        }
        try {
            m.invoke(x, arguments);
        } catch (InvocationTargetException e) {
            hold(m + Arrays.toString(arguments) + " threw " + e.getCause(), Arrays.asList(m.getExceptionTypes()).contains(e.getCause().getClass()));
        } catch (IllegalAccessException e) {
            throw new AssertionError(e);
        }
    }

    /** Nothing but what the constructor makes may be kept or made: all of a run lives in one room. */
    static void room() {
        com.sun.management.ThreadMXBean bean = (com.sun.management.ThreadMXBean) ManagementFactory.getThreadMXBean();
        long id = Thread.currentThread().getId();
        new MeshWaters();
        long ahead = bean.getThreadAllocatedBytes(id);
        MeshWaters x = new MeshWaters();
        long made = bean.getThreadAllocatedBytes(id) - ahead;
        hold("bytes of a new object: " + made, made < 120_000);
        dearCalls(x);
        ahead = bean.getThreadAllocatedBytes(id);
        for (int i = 0; i < 20; i++) {
            dearCalls(x);
        }
        made = bean.getThreadAllocatedBytes(id) - ahead;
        hold("bytes of dear calls: " + made, made < 20_000);
    }

    private static void dearCalls(MeshWaters x) {
        x.feed(0x6d657368, 0x20372033, 0x3b707761, 0x7465723b, 0x20202020);
        x.sea(9);
        x.lower(0, true);
        x.image();
        x.years(200);
        x.some(1);
        x.just(1, 1);
        x.most(1);
        x.place(1, 3);
        x.wish(3, true);
        x.see(3);
        x.fewest();
        x.mesh(999);
        x.find(60, 0);
        x.parts(999999937, 0, false);
        x.divided(735134400, 1);
        x.primes(999990000, 999992000);
        x.prime(999990000);
        x.shoal(7, 100000);
        x.sums(1_000_000_000_000_000L, 50, 7);
        x.figures(1_000_000_000_000_000L, 7, true);
        x.split(9, 0);
        x.round(0);
        x.ends();
        x.fits(0);
        x.fleets(0);
        x.days(1, 300, -1);
        x.restore();
        x.undo();
    }
}
