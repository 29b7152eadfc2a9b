import java.io.IOException;
import java.lang.management.ManagementFactory;
import java.lang.reflect.Field;
import java.lang.reflect.Method;
import java.lang.reflect.Modifier;
import java.nio.file.Files;
import java.nio.file.Path;
import java.util.Arrays;
import java.util.Set;
import java.util.TreeSet;
import java.util.regex.Matcher;
import java.util.regex.Pattern;

/** The public face of the document, rules of LANGUAGE.md that can be read off the file, and the room that calls take. */
public final class LanguageTest {
    private static final Path SOURCE = Path.of("src/main/java/ScullerySweets.java");
    private static final String FACE = "dish(iii) ofDish(ii) menu(ii) house(ii) diner(ii) ofDiner(ii) change(iii)"
        + " become(ii) as(ii) feed(li) text(i) law(iiii) days(i) loose(i) then(iii) out(ii) first(i) roomFor(iii)"
        + " best(iii) swap(i) whose(iii) loved(ii) pack(i) few(i) broken(i) swill(i) cheer(ii) odds(iiii) seed(i)"
        + " voice(iii) trace(i) sheet(iii) put(iii) move(iiiii) menus(i) judge(i) image() restore() tell(i) check()"
        + " count(i) told(i)";
    private static int wrong = 0;

    private static void due(boolean is, String what) {
        if (!is) {
            wrong++;
            System.out.println(what);
        }
    }

    private static void face() {
        Set<String> found = new TreeSet<>();
        Set<String> names = new TreeSet<>();
        for (Method m : ScullerySweets.class.getDeclaredMethods()) {
            if (Modifier.isPublic(m.getModifiers())) {
                StringBuilder sign = new StringBuilder(m.getName()).append('(');
                for (Class<?> p : m.getParameterTypes()) {
                    sign.append(p.getName().charAt(0));
                }
                found.add(sign.append(')').toString());
                names.add(m.getName());
                due(m.getReturnType() == int.class && !Modifier.isStatic(m.getModifiers()), "face: " + m);
            }
        }
        due(found.equals(new TreeSet<>(Arrays.asList(FACE.split(" ")))), "the public face is " + found);
        for (Method m : ScullerySweets.class.getDeclaredMethods()) {
            boolean isPublic = Modifier.isPublic(m.getModifiers());
            due(isPublic || Modifier.isPrivate(m.getModifiers()), "rule 1, neither public nor private: " + m);
            due(isPublic || !names.contains(m.getName()), "rule 1, private with a public name: " + m);
        }
        for (Field f : ScullerySweets.class.getDeclaredFields()) {
            due(Modifier.isPrivate(f.getModifiers()), "rule 1, field that isn't private: " + f);
        }
        due(Modifier.isFinal(ScullerySweets.class.getModifiers()), "rule 1, the class isn't final");
        due(ScullerySweets.class.getConstructors().length == 1, "rule 1, the constructor");
    }

    private static void classes() {
        Class<?>[] inside = ScullerySweets.class.getDeclaredClasses();
        due(inside.length < 12, "rule 11, classes: " + inside.length);
        for (Class<?> c : inside) {
            due(Modifier.isStatic(c.getModifiers()), "rule 2, not static: " + c);
            fields(c);
        }
        fields(ScullerySweets.class);
    }

    private static void fields(Class<?> c) {
        int many = 0;
        for (Field f : c.getDeclaredFields()) {
            boolean isStatic = Modifier.isStatic(f.getModifiers());
            many += isStatic ? 0 : 1;
            due(!isStatic || Modifier.isFinal(f.getModifiers()), "rule 5, static and not final: " + f);
        }
        due(many <= 20, "rule 11, fields of " + c + ": " + many);
        for (Method m : c.getDeclaredMethods()) {
            due(m.getParameterCount() <= 7, "rule 11, parameters of " + m);
        }
    }

    private static void words(String source) {
        String bare = source.replaceAll("(?s)/\\*.*?\\*/", " ").replaceAll("//[^\n]*", " ").replaceAll("'.'", "0");
        String never = "\\b(throw|throws|try|catch|finally|synchronized|assert|double|float|new\\s+Object|Object"
            + "|hashCode|toString|equals|random|Random|Thread|Exact|\\w*Exact|package|protected|enum|record|String)\\b"
            + "|->|::|@|\"";
        Matcher m = Pattern.compile(never).matcher(bare);
        while (m.find()) {
            due(false, "not in this file: " + m.group());
        }
        Matcher imports = Pattern.compile("import\\s+([\\w.]+)").matcher(bare);
        while (imports.find()) {
            due(imports.group(1).equals("java.util.Arrays"), "rule 4, import of " + imports.group(1));
        }
        Matcher library = Pattern.compile("\\b(System|Arrays|Math)\\.(\\w+)").matcher(bare);
        while (library.find()) {
            String call = library.group(1) + "." + library.group(2);
            due(Set.of("System.arraycopy", "Arrays.fill", "Math.min", "Math.max").contains(call), "rule 4: " + call);
        }
        due(source.chars().allMatch(c -> c < 128), "signs above 127");
    }

    /** By the indent: a method begins with a line that ends in ") {" and ends with a brace of the same indent. */
    private static void lengths(String source) {
        String[] lines = source.split("\n");
        Pattern head = Pattern.compile("( {4}| {8})(?=[a-zA-Z]).*\\) \\{");
        for (int i = 0; i < lines.length; i++) {
            Matcher m = head.matcher(lines[i]);
            if (m.matches() && !lines[i].trim().matches("(if|for|while|switch)\\b.*")) {
                int end = i;
                while (end < lines.length - 1 && !lines[end].equals(m.group(1) + "}")) {
                    end++;
                }
                due(end - i < 60, "rule 11, long method: " + lines[i].trim());
            }
        }
    }

    private static ScullerySweets fullHouse() {
        ScullerySweets x = new ScullerySweets();
        for (int i = 0; i < 8; i++) {
            x.diner(8 * i, 9);
        }
        x.feed(0x2b6c2b312b73L, 6);
        x.text(0);
        x.sheet(0, 8, 40);
        return x;
    }

    private static long dearCalls(ScullerySweets x) {
        long sum = 0;
        for (int i = 0; i < 50; i++) {
            sum += x.roomFor(7, 99, 30) + x.best(5, 20, 0) + x.swap(20) + x.odds(0, 30, 50, 0) + x.loved(0, i % 8);
            sum += x.whose(0, 0, 0) + x.image() + x.restore() + x.voice(7, 3, i) + x.feed(0x6cL, 1) + x.text(0);
        }
        return sum;
    }

    /** What is made is made in the constructor: calls use it again. */
    private static void room() {
        com.sun.management.ThreadMXBean threads =
            (com.sun.management.ThreadMXBean) ManagementFactory.getThreadMXBean();
        long me = Thread.currentThread().getId();
        dearCalls(fullHouse());
        ScullerySweets x = fullHouse();
        long before = threads.getThreadAllocatedBytes(me);
        dearCalls(x);
        long taken = threads.getThreadAllocatedBytes(me) - before;
        due(taken < 65536, "rule 12, bytes taken by calls: " + taken);
    }

    public static void main(String[] args) throws IOException {
        String source = Files.readString(SOURCE);
        face();
        classes();
        words(source);
        lengths(source);
        room();
        System.out.println(wrong == 0 ? "the file keeps to its rules" : wrong + " rules are broken");
        if (wrong != 0) {
            System.exit(1);
        }
    }
}
