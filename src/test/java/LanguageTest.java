import java.lang.reflect.Constructor;
import java.lang.reflect.Field;
import java.lang.reflect.Method;
import java.lang.reflect.Modifier;
import java.nio.file.Files;
import java.nio.file.Path;
import java.util.ArrayList;
import java.util.Arrays;
import java.util.List;
import java.util.TreeSet;
import java.util.regex.Matcher;
import java.util.regex.Pattern;

/** The face of the document, and what of LANGUAGE.md can be seen from the file's signs. */
public final class LanguageTest {
    private static final String[] FACE = {"int write(int,long)", "int wipe()", "int fault()", "int make(int)",
        "int about(int,int)", "int worn(int,int,int)", "int goes(int,int,int)", "int mending(int,int,int)",
        "int day(int)", "int hear(int,boolean)", "int mend(int,int)", "int look(int,int)", "long weight(int,int)",
        "long chance(int,int,boolean)", "long knock(int,boolean)", "int likely(int)", "long life(int,int,boolean)",
        "int rule(int,int,int)", "long cost(int,int,boolean)", "int which(int,int,int)", "int best(int)",
        "long bestCost(int,boolean)", "int put(int,int,int)", "long barCost(int,int,int,boolean)", "int bar(int)",
        "long plan(int,int,int,int,int,boolean)", "int planAct(int,int,int,int,int)", "long unseen(int,int,boolean)",
        "int unseenAct(int,int)", "long two(int,int,int,int,int,boolean)", "int whom(int,int,int,int,int)",
        "int log(int)", "int unlog()", "int read(int)", "int late(int,int,int)", "int keep(int)", "int again(int)",
        "int count(int)"};
    private static final String[] CONSTANTS = {"public static final int UNKNOWN", "public static final int OUTSIDE",
        "public static final int STATE", "public static final int FULL", "public static final int NONE"};
    private static int wrong;

    private static void check(boolean right, String what) {
        if (!right) {
            wrong++;
            System.out.println(what);
        }
    }

    private static String sign(Method m) {
        StringBuilder s = new StringBuilder(m.getReturnType() + " " + m.getName() + "(");
        for (Class<?> p : m.getParameterTypes()) {
            s.append(s.charAt(s.length() - 1) == '(' ? "" : ",").append(p);
        }
        return s.append(")").toString();
    }

    private static void checkFace() {
        Class<?> c = MendedOrNew.class;
        check(Modifier.isPublic(c.getModifiers()) && Modifier.isFinal(c.getModifiers()), "the class is public and final");
        TreeSet<String> face = new TreeSet<>();
        TreeSet<String> names = new TreeSet<>();
        for (Method m : c.getDeclaredMethods()) {
            if (!Modifier.isPrivate(m.getModifiers())) {
                face.add(sign(m));
                names.add(m.getName());
            }
        }
        check(face.equals(new TreeSet<>(Arrays.asList(FACE))), "the methods are not those of the face: " + face);
        TreeSet<String> open = new TreeSet<>();
        for (Field f : c.getDeclaredFields()) {
            if (!Modifier.isPrivate(f.getModifiers())) {
                open.add(Modifier.toString(f.getModifiers()) + " " + f.getType() + " " + f.getName());
            }
        }
        check(open.equals(new TreeSet<>(Arrays.asList(CONSTANTS))), "the constants are not those of the face: " + open);
        for (Constructor<?> k : c.getDeclaredConstructors()) {
            check(Modifier.isPublic(k.getModifiers()) && k.getParameterCount() == 0, "the constructor is " + k);
        }
        List<Class<?>> all = new ArrayList<>(Arrays.asList(c.getDeclaredClasses()));
        check(all.size() <= 12, "more than twelve classes");
        all.add(c);
        for (Class<?> k : all) {
            check(k == c || Modifier.isStatic(k.getModifiers()), k + " is not static");
            long fields = Arrays.stream(k.getDeclaredFields()).filter(f -> !Modifier.isStatic(f.getModifiers())).count();
            check(fields <= 20, k + " has too many fields: " + fields);
            for (Method m : k.getDeclaredMethods()) {
                check(m.getParameterCount() <= 7, m + " takes too much");
                check(!(k != c || Modifier.isPrivate(m.getModifiers())) || !names.contains(m.getName()), m + " bears a name of the face");
            }
        }
    }

    private static void checkSigns(String source) {
        String bare = source.replaceAll("(?s)/\\*.*?\\*/", "").replaceAll("//[^\n]*", "");
        String[] out = {"\\bthrow\\b", "\\bthrows\\b", "\\btry\\b", "\\bcatch\\b", "\\bsynchronized\\b", "\\bassert\\b",
            "->", "::", "Exact\\b", "\\bimport\\b", "\\bpackage\\b", "\\bprotected\\b", "while \\(true\\)", "\\bString\\b",
            "\\bdouble\\b", "\\bfloat\\b", "(?m)^\\s*static \\{"};
        for (String o : out) {
            Matcher m = Pattern.compile(o).matcher(bare);
            check(!m.find(), "the program has " + o);
        }
        Matcher library = Pattern.compile("\\b(Math|Long|Integer|System)\\.(\\w+)").matcher(bare);
        List<String> fine = Arrays.asList("max", "min", "compare", "bitCount", "arraycopy");
        while (library.find()) {
            check(fine.contains(library.group(2)), "the program uses " + library.group());
        }
        int length = 0;
        for (String line : source.split("\n")) {
            length = line.matches("( {4}| {8})[^ ].*\\) \\{") ? 0 : length + 1;
            check(!line.matches(" {4}( {4})?\\}") || length <= 60, "a method is too long, before: " + line);
            length = line.matches(" {4}(private|public) .*class.*") ? 0 : length;
        }
    }

    public static void main(String[] args) throws Exception {
        checkFace();
        checkSigns(Files.readString(Path.of(System.getProperty("program", "src/main/java/MendedOrNew.java"))));
        System.out.println(wrong == 0 ? "the language is kept" : wrong + " rules are broken");
        if (wrong != 0) {
            System.exit(1);
        }
    }
}
