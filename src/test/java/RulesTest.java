import java.lang.reflect.Constructor;
import java.lang.reflect.Field;
import java.lang.reflect.Method;
import java.lang.reflect.Modifier;
import java.nio.file.Files;
import java.nio.file.Path;
import java.util.Set;
import java.util.TreeSet;

/** The public face of the class, and those rules of the language that a text search can see. */
public final class RulesTest {
    private static final Check check = new Check("RulesTest");

    private static final String[] FACE = {
        "int road(int)", "int climb(int,int)", "int heat(int)", "int mat(int,boolean)", "int deaf(int,int)",
        "int way(int,int,int,int)", "int earliest(int,int,int,int,int)", "int fewest(int)", "int runner(int,int)",
        "int going(int,int,int,int)", "int forget(int)", "int as(int,int)", "int goingIs(int,int)", "int draw(int)",
        "int race()", "int would(int,int)", "int heard(int,int)", "int off(int)", "int pace(int,int,int,int,int)",
        "int odds(int,int,int,int)", "int feed(long,int)", "int text(int)", "int least(int)", "int gap(int,int,int)",
        "int company(int,int)", "int misses(int,int)", "long parts(int,int)", "int odd(int)", "int judge(int)",
        "int place(int,int)", "int up(int)", "int entry(int,int,int,int)", "int same(int,int)",
        "int voice(int,int,int)", "int trace(int)", "int sheet(int,int,int)", "int put(int,int,int)",
        "int move(int,int,int,int,int)", "int write(int,int)", "int image()", "int restore()", "int told(int)",
        "int found(int)",
    };

    public static void main(String[] args) throws Exception {
        theFace();
        privateNames();
        classesInside();
        theSource();
        check.end();
    }

    private static String signature(Method m) {
        StringBuilder s = new StringBuilder(m.getReturnType().getName()).append(' ').append(m.getName()).append('(');
        Class<?>[] types = m.getParameterTypes();
        for (int i = 0; i < types.length; i++) {
            s.append(i == 0 ? "" : ",").append(types[i].getName());
        }
        return s.append(')').toString();
    }

    private static void theFace() {
        check.holds("the class is public and final", Modifier.isPublic(TrainMile.class.getModifiers())
                && Modifier.isFinal(TrainMile.class.getModifiers()));
        Constructor<?>[] constructors = TrainMile.class.getDeclaredConstructors();
        check.holds("there is one public constructor without parameters", constructors.length == 1
                && Modifier.isPublic(constructors[0].getModifiers()) && constructors[0].getParameterCount() == 0);
        Set<String> due = new TreeSet<>(Set.of(FACE));
        Set<String> seen = new TreeSet<>();
        for (Method m : TrainMile.class.getDeclaredMethods()) {
            if (Modifier.isPrivate(m.getModifiers()) || m.isSynthetic()) {
                continue;
            }
            check.holds(m.getName() + " is public", Modifier.isPublic(m.getModifiers()));
            seen.add(signature(m));
        }
        check.holds("the methods are those of the document: " + seen, seen.equals(due));
        for (Field f : TrainMile.class.getDeclaredFields()) {
            check.holds(f.getName() + " is private", Modifier.isPrivate(f.getModifiers()));
            check.holds(f.getName() + ", if static, is final",
                    !Modifier.isStatic(f.getModifiers()) || Modifier.isFinal(f.getModifiers()));
        }
    }

    private static void privateNames() {
        Set<String> names = new TreeSet<>();
        for (String s : FACE) {
            names.add(s.substring(s.indexOf(' ') + 1, s.indexOf('(')));
        }
        for (Method m : TrainMile.class.getDeclaredMethods()) {
            check.holds(m.getName() + " bears no public one's name",
                    Modifier.isPublic(m.getModifiers()) || !names.contains(m.getName()));
            check.holds(m.getName() + " has at most seven parameters", m.getParameterCount() <= 7);
        }
        for (Class<?> inside : TrainMile.class.getDeclaredClasses()) {
            for (Method m : inside.getDeclaredMethods()) {
                check.holds(m.getName() + " bears no public one's name", !names.contains(m.getName()));
                check.holds(m.getName() + " has at most seven parameters", m.getParameterCount() <= 7);
            }
        }
    }

    private static void classesInside() {
        Class<?>[] inside = TrainMile.class.getDeclaredClasses();
        check.holds("there are at most twelve classes", inside.length + 1 <= 12);
        for (Class<?> c : inside) {
            check.holds(c.getName() + " is private and static",
                    Modifier.isPrivate(c.getModifiers()) && Modifier.isStatic(c.getModifiers()));
            int fields = 0;
            for (Field f : c.getDeclaredFields()) {
                fields += Modifier.isStatic(f.getModifiers()) ? 0 : 1;
            }
            check.holds(c.getName() + " has at most twenty fields", fields <= 20);
        }
    }

    private static void theSource() throws Exception {
        String source = Files.readString(Path.of("src/main/java/TrainMile.java"));
        check.holds("its signs are plain ones", source.chars().allMatch(c -> c < 128));
        String code = source.replaceAll("(?s)/\\*.*?\\*/", "").replaceAll("//[^\n]*", "");
        String[] words = {
            "throw", "throws", "try", "catch", "finally", "synchronized", "assert", "package", "protected",
            "System.out", "Thread", "Exception", "Random", "currentTimeMillis", "nanoTime", "hashCode", "toString",
        };
        for (String word : words) {
            check.holds("there is no " + word, !code.matches("(?s).*\\b" + word.replace(".", "\\.") + "\\b.*"));
        }
        check.holds("there is no lambda", !code.contains("->"));
        check.holds("there is no method reference", !code.contains("::"));
        check.holds("there is no static block", !code.matches("(?s).*\\bstatic\\s*\\{.*"));
        check.holds("nothing ends in Exact", !code.matches("(?s).*Exact\\(.*"));
        for (String line : code.split("\n")) {
            if (line.startsWith("import ")) {
                check.due("import " + line, line.equals("import java.util.Arrays;") ? 0 : 1, 0);
            }
            // Rows and objects are made with the object alone, in its fields.
            boolean makes = line.matches(".*\\bnew\\b.*");
            boolean inField = line.matches("\\s*(private )?(final )[\\w\\[\\]]+ \\w+ = .*;");
            check.holds("no call makes an object: " + line.trim(), !makes || inField);
        }
    }
}
