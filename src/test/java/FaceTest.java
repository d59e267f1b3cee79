import java.lang.reflect.Array;
import java.lang.reflect.Field;
import java.lang.reflect.Method;
import java.lang.reflect.Modifier;
import java.nio.file.Files;
import java.nio.file.Path;
import java.util.ArrayList;
import java.util.IdentityHashMap;
import java.util.List;
import java.util.Map;
import java.util.Set;
import java.util.TreeSet;

/** The public face, by reflection; the room that an object takes; some rules of LANGUAGE.md on the source. */
public final class FaceTest {
    private static final Path SOURCE = Path.of("src/main/java/TraitLines.java");
    private static final String FACE = "int feed 5;int end 1;int tell 0;int join 2;int leave 2;int turn 1;int give 3;int need 2;int take 2;"
        + "int use 2;int change 4;int undo 0;int keep 1;int back 1;int unit 2;int parent 2;int used 2;int becomes 3;int body 3;int flat 3;"
        + "int line 2;int ring 2;int over 1;long orders 1;int first 2;int place 2;int send 3;int chain 3;int lacks 1;int answers 1;"
        + "int alike 2;int origins 2;long mean 1;int find 1;int count 1";
    private static int wrong = 0;

    public static void main(String[] args) throws Exception {
        face();
        names();
        room();
        source();
        System.out.println("FaceTest: " + (wrong == 0 ? "all is as due" : wrong + " things are not as due"));
        if (wrong != 0) {
            System.exit(1);
        }
    }

    private static void due(boolean good, String what) {
        if (!good) {
            wrong++;
            System.out.println("not as due: " + what);
        }
    }

    private static void face() throws Exception {
        Set<String> due = new TreeSet<>(List.of(FACE.split(";")));
        Set<String> got = new TreeSet<>();
        for (Method m : TraitLines.class.getDeclaredMethods()) {
            if (!Modifier.isPrivate(m.getModifiers())) {
                due(Modifier.isPublic(m.getModifiers()) && !Modifier.isStatic(m.getModifiers()), m.getName());
                got.add(m.getReturnType() + " " + m.getName() + " " + m.getParameterCount());
                for (Class<?> type : m.getParameterTypes()) {
                    due(type == int.class, "a parameter of " + m.getName());
                }
            }
        }
        due(due.equals(got), "the methods " + got);
        due(Modifier.isFinal(TraitLines.class.getModifiers()), "the class is final");
        due(TraitLines.class.getDeclaredConstructors().length == 1 && TraitLines.class.getConstructors().length == 1, "one constructor");
        for (Field f : TraitLines.class.getDeclaredFields()) {
            due(Modifier.isPrivate(f.getModifiers()) != f.getName().equals("NONE"), "field " + f.getName());
        }
        due(Modifier.isPublic(TraitLines.class.getDeclaredField("NONE").getModifiers()), "NONE is public");
        for (Class<?> inside : TraitLines.class.getDeclaredClasses()) {
            due(Modifier.isStatic(inside.getModifiers()) && !Modifier.isPublic(inside.getModifiers()), inside.getName());
            due(inside.getDeclaredFields().length <= 25, "fields of " + inside.getName());
        }
        due(TraitLines.class.getDeclaredClasses().length < 12, "at most twelve classes");
    }

    private static void names() {
        Set<String> open = new TreeSet<>();
        for (String method : FACE.split(";")) {
            open.add(method.split(" ")[1]);
        }
        List<Class<?>> all = new ArrayList<>(List.of(TraitLines.class.getDeclaredClasses()));
        all.add(TraitLines.class);
        for (Class<?> c : all) {
            for (Method m : c.getDeclaredMethods()) {
                boolean ofFace = c == TraitLines.class && Modifier.isPublic(m.getModifiers());
                due(ofFace || !open.contains(m.getName()), "a method inside named " + m.getName());
                due(m.getParameterCount() <= 7, "parameters of " + m.getName());
            }
        }
    }

    /** An object holds the same room before and after its calls, and a small one. */
    private static void room() throws Exception {
        TraitLines x = new TraitLines();
        long[] before = weigh(x);
        HelperCheck.tellText(x, "trait T:a=1;type A uses T:b=a+a;type B of A:a=super");
        x.keep(0);
        x.give(1, 0, 3);
        x.undo();
        x.back(0);
        x.orders(2);
        x.alike(1, 2);
        long[] after = weigh(x);
        due(before[0] == after[0] && before[1] == after[1], "calls make no objects");
        due(after[0] < 1000 && after[1] < 30000, "objects " + after[0] + ", fields and elements " + after[1]);
    }

    private static long[] weigh(Object root) throws Exception {
        Map<Object, Boolean> seen = new IdentityHashMap<>();
        List<Object> open = new ArrayList<>(List.of(root));
        long cells = 0;
        while (!open.isEmpty()) {
            Object o = open.remove(open.size() - 1);
            if (seen.put(o, true) != null) {
                continue;
            }
            if (o.getClass().isArray()) {
                cells += Array.getLength(o);
                for (int k = 0; k < Array.getLength(o) && !o.getClass().getComponentType().isPrimitive(); k++) {
                    open.add(Array.get(o, k));
                }
                continue;
            }
            for (Field f : o.getClass().getDeclaredFields()) {
                if (!Modifier.isStatic(f.getModifiers())) {
                    f.setAccessible(true);
                    cells++;
                    if (!f.getType().isPrimitive() && f.get(o) != null) {
                        open.add(f.get(o));
                    }
                }
            }
        }
        return new long[] {seen.size(), cells};
    }

    private static void source() throws Exception {
        List<String> lines = Files.readAllLines(SOURCE);
        String[] never = {"->", "::", "catch", "throw", "finally", "synchronized", "assert", "double", "float", "Double", "Exact(",
            "static {", "Object", "System.out", "System.nano", "Random", "package "};
        int[] starts = new int[2];
        for (int k = 0; k < lines.size(); k++) {
            String code = lines.get(k).replaceAll("//.*|/\\*\\*.*|\".*?\"", "");
            for (String word : never) {
                due(!code.contains(word), "line " + (k + 1) + " has " + word);
            }
            due(!code.startsWith("import ") || code.equals("import java.util.Arrays;"), code);
            due(lines.get(k).chars().allMatch(c -> c >= 32 && c < 127), "signs of line " + (k + 1));
            lengthOfMethods(lines, starts, k, code);
        }
    }

    /** Methods of the class are set in by 4 blanks, those of the classes inside by 8. */
    private static void lengthOfMethods(List<String> lines, int[] starts, int k, String code) {
        for (int level = 0; level < 2; level++) {
            String blanks = "    ".repeat(level + 1);
            if (code.matches(blanks + "\\S.*\\{")) {
                starts[level] = k;
            }
            boolean ofClass = lines.get(starts[level]).contains(" class ");
            due(!code.equals(blanks + "}") || ofClass || k - starts[level] < 60, "the method that ends in line " + (k + 1) + " is long");
        }
    }
}
