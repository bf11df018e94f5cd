import java.io.IOException;
import java.lang.management.ManagementFactory;
import java.lang.reflect.Constructor;
import java.lang.reflect.Field;
import java.lang.reflect.Method;
import java.lang.reflect.Modifier;
import java.nio.file.Files;
import java.nio.file.Path;
import java.util.ArrayList;
import java.util.HashSet;
import java.util.List;
import java.util.Set;
import java.util.TreeSet;
import java.util.regex.Matcher;
import java.util.regex.Pattern;

/** What LANGUAGE.md rules that can be seen by a machine: the face, the source, what a run allots. */
public final class RulesTest {
    private static final Due DUE = new Due();
    private static final Path SOURCE = Path.of("src/main/java/HutAnswers.java");
    private static final String FACE = "thing(1) question(3) of(2) visitor(1) terms(2) feed(5) end(1) row(0) hens(0) "
            + "law(0) orders(0) fault(0) stopped(0) force(1) ask(1) pour(1) pass(0) hide(1) undo(0) known(1) odds(2) "
            + "worst(3) mean(3) heap(1) apart(2) order(2) guess(4) share(1) compare(1) huts(2) drawn(1) image(1) "
            + "back(1) count(1) status(0)";

    public static void main(String[] args) throws IOException {
        face();
        members();
        source();
        allots();
        DUE.close("RulesTest");
    }

    private static void face() {
        DUE.isTrue("rule 1: final", Modifier.isFinal(HutAnswers.class.getModifiers()));
        Set<String> got = new TreeSet<>();
        Set<String> names = new HashSet<>();
        for (Method m : HutAnswers.class.getDeclaredMethods()) {
            if (Modifier.isPublic(m.getModifiers())) {
                got.add(m.getName() + "(" + m.getParameterCount() + ")");
                names.add(m.getName());
                DUE.isTrue("rule 1: int " + m, m.getReturnType() == int.class);
            }
        }
        DUE.isTrue("rule 1: the methods " + got, got.equals(new TreeSet<>(List.of(FACE.split(" ")))));
        for (Constructor<?> c : HutAnswers.class.getDeclaredConstructors()) {
            DUE.isTrue("rule 1: " + c, Modifier.isPublic(c.getModifiers()) && c.getParameterCount() == 0);
        }
        for (Class<?> c : allClasses()) {
            for (Method m : c.getDeclaredMethods()) {
                boolean isFace = c == HutAnswers.class && Modifier.isPublic(m.getModifiers());
                DUE.isTrue("rule 1: a name of the face: " + m, isFace || !names.contains(m.getName()));
                DUE.isTrue("rule 11: seven parameters: " + m, m.getParameterCount() <= 7);
            }
        }
    }

    private static List<Class<?>> allClasses() {
        List<Class<?>> all = new ArrayList<>(List.of(HutAnswers.class.getDeclaredClasses()));
        all.add(HutAnswers.class);
        return all;
    }

    private static void members() {
        DUE.isTrue("rule 11: twelve classes", allClasses().size() <= 12);
        for (Class<?> c : allClasses()) {
            int fields = 0;
            for (Field f : c.getDeclaredFields()) {
                boolean isStatic = Modifier.isStatic(f.getModifiers());
                fields += isStatic ? 0 : 1;
                DUE.isTrue("rule 5: " + f, !isStatic || Modifier.isFinal(f.getModifiers()));
                boolean isFace = f.getName().equals("NONE") && c == HutAnswers.class;
                DUE.isTrue("rule 1: " + f,
                        c != HutAnswers.class || isFace || Modifier.isPrivate(f.getModifiers()));
            }
            DUE.isTrue("rule 11: twenty fields of " + c, fields <= 20);
            DUE.isTrue("rule 2: " + c, c == HutAnswers.class || Modifier.isStatic(c.getModifiers()));
        }
    }

    private static void source() throws IOException {
        String whole = Files.readString(SOURCE);
        DUE.isTrue("no tabs, no signs beyond 127", whole.chars().allMatch(c -> c == '\n' || c >= 32 && c < 127));
        String code = whole.replaceAll("(?s)/\\*.*?\\*/", "").replaceAll("//.*", "");
        for (String word : List.of("throw", "throws", "try", "catch", "synchronized", "assert", "package", "native",
                "Exact", "Random", "Object", "hashCode", "toString", "equals", "volatile", "transient")) {
            DUE.isTrue("rule 6: " + word, !Pattern.compile("\\b\\w*" + word + "\\b").matcher(code).find());
        }
        DUE.isTrue("rule 2: no lambda, no method reference", !code.contains("->") && !code.contains("::"));
        Matcher imports = Pattern.compile("import ([\\w.]+);").matcher(code);
        while (imports.find()) {
            DUE.isTrue("rule 4: " + imports.group(1),
                    List.of("java.util.Arrays", "java.util.ArrayList", "java.util.List").contains(imports.group(1)));
        }
        methodsAreShort(whole.split("\n"));
    }

    private static void methodsAreShort(String[] lines) {
        Pattern head = Pattern.compile("( {4}| {8})(?!.*\\bclass\\b)(?!.*=)\\S.*\\{");
        for (int i = 0; i < lines.length; i++) {
            Matcher m = head.matcher(lines[i]);
            if (m.matches()) {
                int end = i;
                while (!lines[end].equals(m.group(1) + "}")) {
                    end++;
                }
                DUE.isTrue("rule 11: sixty lines: " + lines[i].trim(), end - i < 60);
            }
        }
    }

    /** Only law() may allot behind the constructor, and little. */
    private static void allots() {
        com.sun.management.ThreadMXBean threads =
                (com.sun.management.ThreadMXBean) ManagementFactory.getThreadMXBean();
        long me = Thread.currentThread().getId();
        long least = Long.MAX_VALUE;
        long lawLeast = Long.MAX_VALUE;
        for (int round = 0; round < 5; round++) {
            HutAnswers x = full();
            x.feed(0x6d6f6f64, 0, 0, 0, 0);
            long before = threads.getThreadAllocatedBytes(me);
            allButLaw(x);
            least = Math.min(least, threads.getThreadAllocatedBytes(me) - before);
            x.end(0);
            Due.put(x, "ages 1" + "+1".repeat(49) + ";turns".repeat(11));
            before = threads.getThreadAllocatedBytes(me);
            x.law();
            lawLeast = Math.min(lawLeast, threads.getThreadAllocatedBytes(me) - before);
        }
        DUE.isTrue("rule 12: bytes that calls allot: " + least, least < 1000);
        DUE.isTrue("rule 12: bytes that a law allots: " + lawLeast, lawLeast < 3000);
    }

    private static HutAnswers full() {
        HutAnswers x = new HutAnswers();
        for (int i = 0; i < 8; i++) {
            x.thing(10 + i);
            x.question(10 + i, i % 2, 6841 * i);
            x.visitor(31 * i);
        }
        Due.law(x, "ages years+age%7+asked-left;turns if age%3=1;bars if question=7 and age>9000");
        x.force(0);
        return x;
    }

    private static void allButLaw(HutAnswers x) {
        x.orders();
        x.image(0);
        for (int i = 0; i < 20; i++) {
            x.hide(i % 8);
            x.ask(i % 8);
            x.pour(1);
            x.pass();
            x.undo();
            x.worst(-1, i % 2, 0);
            x.mean(i, i % 2, 1);
            x.heap(i % 2);
            x.apart(0, 7);
            x.order(127, 3);
            x.guess(0, 3, 0, 1);
            x.share(i % 6);
            x.compare(-1);
            x.huts(i, 40);
            x.drawn(4);
            x.odds(1, 1);
        }
        x.back(0);
        x.row();
    }
}
