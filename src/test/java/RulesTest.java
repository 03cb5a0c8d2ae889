import java.io.IOException;
import java.lang.management.ManagementFactory;
import java.lang.reflect.Constructor;
import java.lang.reflect.Field;
import java.lang.reflect.Method;
import java.lang.reflect.Modifier;
import java.nio.charset.StandardCharsets;
import java.nio.file.Files;
import java.nio.file.Path;
import java.util.Set;
import java.util.TreeSet;

/** The public face, what the language's rules leave out, and how much room a run of dear calls takes. */
public final class RulesTest {
    private static final Set<String> FACE = Set.of("begin(int)", "joint(int,int,int,int)", "bar(int,int)", "unbar()",
            "sign(int,int)", "count(int)", "end(int,int)", "at(int,int)", "rank(int,int)", "closure(int,int)",
            "implied(int,int,int,int)", "rigid(int)", "lacks(int)", "spare(int)", "many(int,int)",
            "told(int,int,int)", "coefficient(int,int,int)", "cluster(int,int)", "stressed(int,int,int)",
            "holds(int)", "built(int)", "oneShape()");
    private static final String[] LEFT_OUT = {"\\bthrow\\b", "\\bthrows\\b", "\\btry\\b", "\\bcatch\\b", "\\bassert\\b",
        "\\bsynchronized\\b", "->", "::", "Exact\\(", "^package\\b", "\\bimport (?!java\\.util\\.Arrays;)", "\\bstatic \\{",
        "\\bSystem\\.(?!arraycopy)", "\\bMath\\.(?!(min|max|abs)\\b)", "\\bInteger\\.(?!bitCount\\b)", "\\bObject\\b",
        "\\bRandom\\b", "\\bThread\\b"};
    private static int wrong = 0;

    private static void must(boolean holds, String what) {
        if (!holds) {
            wrong++;
            System.out.println("not so: " + what);
        }
    }

    public static void main(String[] args) throws IOException {
        face();
        source();
        room();
        System.out.println(wrong == 0 ? "all rules are kept" : wrong + " rules are not kept");
        if (wrong != 0) {
            System.exit(1);
        }
    }

    private static void face() {
        Class<?> c = RigidRanks.class;
        must(Modifier.isPublic(c.getModifiers()) && Modifier.isFinal(c.getModifiers()), "the class is public and final");
        TreeSet<String> found = new TreeSet<>();
        TreeSet<String> names = new TreeSet<>();
        for (Method method : c.getDeclaredMethods()) {
            int is = method.getModifiers();
            must(Modifier.isPublic(is) || Modifier.isPrivate(is), method + " is public or private");
            if (Modifier.isPublic(is)) {
                must(method.getReturnType() == int.class && !Modifier.isStatic(is), method + " answers an int");
                found.add(form(method));
                names.add(method.getName());
            }
        }
        must(found.equals(new TreeSet<>(FACE)), "the public methods are those of the document: " + found);
        for (Method method : c.getDeclaredMethods()) {
            must(Modifier.isPublic(method.getModifiers()) || !names.contains(method.getName()), method + " has its own name");
        }
        for (Field field : c.getDeclaredFields()) {
            boolean isConstant = Set.of("NONE", "BAD", "FULL", "THERE").contains(field.getName());
            must(Modifier.isPublic(field.getModifiers()) == isConstant, field + " is public only if it is a constant");
            must(isConstant || Modifier.isPrivate(field.getModifiers()), field + " is private");
            must(Modifier.isFinal(field.getModifiers()), field + " is final");
        }
        Constructor<?>[] constructors = c.getDeclaredConstructors();
        must(constructors.length == 1 && Modifier.isPublic(constructors[0].getModifiers()), "one public constructor");
        for (Class<?> inside : c.getDeclaredClasses()) {
            must(Modifier.isStatic(inside.getModifiers()), inside + " is static");
            must(inside.getDeclaredFields().length <= 20, inside + " has few fields");
            for (Method method : inside.getDeclaredMethods()) {
                must(method.getParameterCount() <= 7, method + " takes seven numbers at most");
            }
        }
        must(c.getDeclaredClasses().length < 12, "few classes");
        must(RigidRanks.NONE == -1 && RigidRanks.BAD == -2 && RigidRanks.FULL == -3 && RigidRanks.THERE == -4, "constants");
    }

    private static String form(Method method) {
        StringBuilder text = new StringBuilder(method.getName()).append('(');
        for (int i = 0; i < method.getParameterCount(); i++) {
            text.append(i == 0 ? "" : ",").append(method.getParameterTypes()[i].getName());
        }
        return text.append(')').toString();
    }

    private static void source() throws IOException {
        String text = Files.readString(Path.of("src/main/java/RigidRanks.java"), StandardCharsets.UTF_8);
        must(text.chars().allMatch(c -> c < 256), "characters 0 to 255 alone");
        String code = text.replaceAll("(?s)/\\*.*?\\*/", "").replaceAll("//[^\\n]*", "");
        for (String pattern : LEFT_OUT) {
            must(!java.util.regex.Pattern.compile(pattern, java.util.regex.Pattern.MULTILINE).matcher(code).find(),
                    "the source is without " + pattern);
        }
        shortMethods(text.split("\n"));
    }

    /** A method begins and ends at its own indentation: 4 in the class, 8 in a class inside. */
    private static void shortMethods(String[] lines) {
        for (String indent : new String[] {"    ", "        "}) {
            int begun = -1;
            for (int i = 0; i < lines.length; i++) {
                if (lines[i].matches(indent + "\\w.*\\) \\{")) {
                    begun = i;
                } else if (begun >= 0 && lines[i].equals(indent + "}")) {
                    must(i - begun < 60, "few lines behind " + lines[begun].trim());
                    begun = -1;
                }
            }
        }
    }

    /** The room has 7.3 million fields and elements; a run of the dearest calls keeps far below. */
    private static void room() {
        com.sun.management.ThreadMXBean beans = (com.sun.management.ThreadMXBean) ManagementFactory.getThreadMXBean();
        dearRun();
        long before = beans.getThreadAllocatedBytes(Thread.currentThread().getId());
        int sum = dearRun();
        long bytes = beans.getThreadAllocatedBytes(Thread.currentThread().getId()) - before;
        must(bytes < 1_000_000, "a run takes less than a million bytes, but took " + bytes + " (" + sum + ")");
    }

    private static int dearRun() {
        RigidRanks x = new RigidRanks();
        x.begin(5);
        for (int b = 1; b < 5; b++) {
            for (int a = 0; a < b; a++) {
                x.bar(a, b);
            }
        }
        int sum = 0;
        for (int i = 0; i < 434; i++) {
            int sort = i % 3;
            switch (i % 7) {
                case 0: x.joint(i % 5, i % 9 - 4, i % 8 - 4, i % 7 - 3); break;
                case 1: sum += x.many(sort, i % 6); break;
                case 2: sum += x.told(sort, i % 5, i % 4); break;
                case 3: sum += x.coefficient(sort, 1, 0); break;
                case 4: sum += x.holds(sort); break;
                case 5: sum += x.cluster(sort, 0); break;
                default: sum += x.oneShape() + x.built(0); break;
            }
        }
        return sum;
    }
}
