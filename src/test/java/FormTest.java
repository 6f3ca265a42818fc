import java.lang.management.ManagementFactory;
import java.lang.reflect.Constructor;
import java.lang.reflect.Field;
import java.lang.reflect.Method;
import java.lang.reflect.Modifier;
import java.nio.file.Files;
import java.nio.file.Path;
import java.util.Arrays;
import java.util.List;
import java.util.Random;
import java.util.TreeSet;
import java.util.regex.Pattern;

/** The public face of the document, and what of LANGUAGE.md a program can look at. */
public final class FormTest {
    private static final int[] ODD = {Integer.MIN_VALUE, -5000, -2, -1, 0, 1, 2, 3, 7, 8, 31, 63, 64, 5000, 9999, 10000, Integer.MAX_VALUE};

    public static void main(String[] args) throws Exception {
        constants();
        face();
        staticFields();
        words(args.length > 0 ? args[0] : "src/main/java/TabletCells.java");
        throwsNothing();
        room();
        Check.end();
    }

    private static void constants() {
        Check.is("BAD", TabletCells.BAD, -1);
        Check.is("FULL", TabletCells.FULL, -2);
        Check.is("TORN", TabletCells.TORN, -3);
    }

    private static void face() {
        TreeSet<String> due = new TreeSet<>(List.of(
            "boolean put(int,int,int,int)", "boolean erase(int,int,int)", "boolean expect(int,int,boolean,int)",
            "int apply()", "void tear()", "void crash()", "int tick(int)", "long get(int,int,int,int)",
            "int scan(int,int,int,int,int)", "long found(int)", "int flush(int)", "int compact(int,int)", "int major(int)",
            "boolean split(int,int)", "boolean join(int)", "int tablet(int,int)", "int table(int,int,int)", "int log()",
            "int looked()"));
        TreeSet<String> there = new TreeSet<>();
        TreeSet<String> names = new TreeSet<>();
        for (Method m : TabletCells.class.getDeclaredMethods()) {
            if (!Modifier.isPrivate(m.getModifiers())) {
                there.add(signature(m));
                names.add(m.getName());
                Check.is(m + " is public and of the object", m.getModifiers(), Modifier.PUBLIC);
            }
        }
        Check.is("the methods " + there, there.equals(due), true);
        for (Class<?> c : classes()) {
            for (Method m : c.getDeclaredMethods()) {
                boolean isOfFace = c == TabletCells.class && Modifier.isPublic(m.getModifiers());
                Check.is(m + " bears a name of the face", isOfFace || !names.contains(m.getName()), true);
                Check.is(m + " has at most seven parameters", m.getParameterCount() <= 7, true);
            }
            Check.is(c + " has some twenty fields", objectFields(c) <= 20, true);
        }
        Constructor<?>[] made = TabletCells.class.getDeclaredConstructors();
        Check.is("one constructor", made.length, 1);
        Check.is("its parameters", Arrays.equals(made[0].getParameterTypes(), new Class<?>[] {int.class, int.class, int.class, int.class}), true);
        Check.is("a public final class", TabletCells.class.getModifiers(), Modifier.PUBLIC | Modifier.FINAL);
    }

    private static String signature(Method m) {
        StringBuilder s = new StringBuilder(m.getReturnType().getName()).append(' ').append(m.getName()).append('(');
        for (int i = 0; i < m.getParameterCount(); i++) {
            s.append(i == 0 ? "" : ",").append(m.getParameterTypes()[i].getName());
        }
        return s.append(')').toString();
    }

    private static Class<?>[] classes() {
        Class<?>[] inside = TabletCells.class.getDeclaredClasses();
        Class<?>[] all = Arrays.copyOf(inside, inside.length + 1);
        all[inside.length] = TabletCells.class;
        return all;
    }

    private static int objectFields(Class<?> c) {
        int n = 0;
        for (Field f : c.getDeclaredFields()) {
            n += Modifier.isStatic(f.getModifiers()) ? 0 : 1;
        }
        return n;
    }

    private static void staticFields() {
        int open = 0;
        for (Class<?> c : classes()) {
            for (Field f : c.getDeclaredFields()) {
                if (Modifier.isStatic(f.getModifiers())) {
                    Check.is(f + " is final", Modifier.isFinal(f.getModifiers()), true);
                }
                if (c == TabletCells.class && !Modifier.isPrivate(f.getModifiers())) {
                    open++;
                    Check.is(f + " is of the face", List.of("BAD", "FULL", "TORN").contains(f.getName()), true);
                }
            }
        }
        Check.is("open fields", open, 3);
        Check.is("some twelve classes", classes().length <= 12, true);
    }

    private static void words(String file) throws Exception {
        String text = Files.readString(Path.of(file));
        String code = text.replaceAll("(?s)/\\*.*?\\*/", "").replaceAll("//[^\n]*", "");
        for (String word : List.of("package", "import", "throw", "try", "finally", "synchronized", "assert", "native", "double", "float",
            "hashCode", "toString", "Thread", "System", "Random", "var", "protected", "static \\{", "->", "::")) {
            boolean isName = Character.isLetter(word.charAt(0)) && Character.isLetter(word.charAt(word.length() - 1));
            String pattern = isName ? "\\b" + word + "\\b" : word;
            Check.is("the program has " + word, Pattern.compile(pattern).matcher(code).find(), false);
        }
    }

    private static int odd(Random random) {
        return random.nextInt(3) == 0 ? random.nextInt(12) : ODD[random.nextInt(ODD.length)];
    }

    /** Any arguments in any state, also far behind the 512th call. */
    private static void throwsNothing() {
        for (int seed = 0; seed < 40; seed++) {
            Random random = new Random(seed);
            TabletCells x = new TabletCells(odd(random), odd(random), odd(random), odd(random));
            String at = "none";
            try {
                for (int i = 0; i < 5000; i++) {
                    int method = random.nextInt(30);
                    at = "call " + i + " of run " + seed + ", method " + method;
                    anyCall(x, method, random);
                }
            } catch (RuntimeException e) {
                Check.is(at + " threw " + e, 1, 0);
            }
        }
        Check.is("nothing was thrown", Check.isClean(), true);
    }

    private static void anyCall(TabletCells x, int method, Random random) {
        int a = odd(random), b = odd(random), c = odd(random), d = odd(random), e = odd(random);
        switch (method) {
            case 0 -> x.expect(a, b, c > 0, d);
            case 1 -> x.tear();
            case 2 -> x.crash();
            case 3 -> x.tick(a);
            case 4 -> x.get(a, b, c, d);
            case 5 -> x.scan(a, b, c, d, e);
            case 6 -> x.found(a);
            case 7 -> x.flush(a);
            case 8 -> x.compact(a, b);
            case 9 -> x.major(random.nextInt(4) == 0 ? a : -1);
            case 10 -> x.split(a, b);
            case 11 -> x.join(a);
            case 12 -> x.tablet(a, b);
            case 13 -> x.table(a, b, c);
            case 14 -> x.log();
            case 15 -> x.looked();
            case 16 -> x.erase(a, b, c);
            case 17, 18, 19, 20 -> x.apply();
            default -> x.put(a, b, c, d);
        }
    }

    /** One room for all calls: 600,000 objects and 7.3 million elements, so some 512 objects must fit with all they make. */
    private static void room() {
        com.sun.management.ThreadMXBean threads = (com.sun.management.ThreadMXBean) ManagementFactory.getThreadMXBean();
        long id = Thread.currentThread().getId();
        threads.getThreadAllocatedBytes(id);
        long before = threads.getThreadAllocatedBytes(id);
        TabletCells x = new TabletCells(1, 0, 0, 0);
        long made = threads.getThreadAllocatedBytes(id) - before;
        for (int i = 0; i < 20000; i++) {
            x.put(i % 64, 0, i % 10000, i);
            if (x.apply() == TabletCells.FULL) {
                x.major(0);
            }
            x.scan(0, 63, -1, 0, 9999);
            x.get(i % 64, 0, 9999, 0);
        }
        long all = threads.getThreadAllocatedBytes(id) - before;
        Check.is("a new object has less than 3000 elements, here " + made + " bytes", made < 3000 * 4, true);
        Check.is("80000 calls make no more than the entries that fit, here " + all + " bytes", all < 40000, true);
    }
}
