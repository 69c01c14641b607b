import java.io.IOException;
import java.lang.reflect.Constructor;
import java.lang.reflect.Field;
import java.lang.reflect.Method;
import java.lang.reflect.Modifier;
import java.nio.file.Files;
import java.nio.file.Path;
import java.util.ArrayList;
import java.util.Arrays;
import java.util.List;
import java.util.Set;
import java.util.TreeSet;
import java.util.regex.Matcher;
import java.util.regex.Pattern;

/** The face as the document has it, and those rules of LANGUAGE.md that a test can see. */
public final class LanguageTest {
    private static final Due DUE = new Due();
    private static final String FACE = "int set(int,int,int);int drip(int,int,int);int vessel(int);int put(int,int);"
        + "int fill(int,int);int told(int,int);int falls(int,int,int);int feed(int);int text();int force(int);"
        + "int day(int);int water(int,int,int);int pass(int);int stand(int);int rise(int,int);int lead(int);"
        + "int gone();int tile(int);int more(int,int);int sorted(int);int seen(int,int,int);int strange(int,int);"
        + "int drawn(int);long chance(int,int,int);int image();int back();int count(int);int sheet(int,int,int);"
        + "int cell(int,int,int);int copy(int,int,int,int,int);int rains(int,int,int,int);int taken(int,int)";

    public static void main(String[] args) throws IOException {
        face();
        inside();
        words();
        methodsAreShort();
        DUE.end("LanguageTest");
    }

    private static String shape(Method m) {
        StringBuilder out = new StringBuilder(m.getReturnType().getName() + " " + m.getName() + "(");
        for (Class<?> type : m.getParameterTypes()) {
            out.append(out.charAt(out.length() - 1) == '(' ? "" : ",").append(type.getName());
        }
        return out.append(")").toString();
    }

    /** Rule 1. */
    private static void face() {
        Class<?> it = UnderTheRoof.class;
        DUE.is("rule 1: public and final", it.getModifiers(), Modifier.PUBLIC | Modifier.FINAL);
        Set<String> due = new TreeSet<>(Arrays.asList(FACE.split(";")));
        Set<String> got = new TreeSet<>();
        Set<String> publicNames = new TreeSet<>();
        for (Method m : it.getDeclaredMethods()) {
            if (Modifier.isPublic(m.getModifiers())) {
                got.add(shape(m));
                publicNames.add(m.getName());
                DUE.is("rule 1: " + m.getName() + " is public alone", m.getModifiers(), Modifier.PUBLIC);
            }
        }
        DUE.holds("rule 1: the methods " + got, got.equals(due));
        for (Class<?> c : all()) {
            for (Method m : c.getDeclaredMethods()) {
                boolean own = c == it && Modifier.isPublic(m.getModifiers());
                DUE.holds("rule 1: " + c.getName() + "." + m.getName() + " is none of the face's names",
                    own || !publicNames.contains(m.getName()));
                DUE.holds("rule 1: " + m.getName() + " is private", own || c != it
                    || Modifier.isPrivate(m.getModifiers()));
            }
        }
        Set<String> constants = new TreeSet<>();
        for (Field f : it.getDeclaredFields()) {
            if (Modifier.isPublic(f.getModifiers())) {
                constants.add(f.getType() + " " + f.getName());
            } else {
                DUE.holds("rule 1: " + f.getName() + " is private", Modifier.isPrivate(f.getModifiers()));
            }
        }
        DUE.holds("rule 1: the constants " + constants, constants.equals(
            new TreeSet<>(List.of("int NONE", "int BAD", "int STATE", "int FULL", "long NO"))));
        Constructor<?>[] made = it.getDeclaredConstructors();
        DUE.holds("rule 1: one constructor", made.length == 1 && made[0].getParameterCount() == 0
            && made[0].getModifiers() == Modifier.PUBLIC);
    }

    private static List<Class<?>> all() {
        List<Class<?>> all = new ArrayList<>(List.of(UnderTheRoof.class));
        all.addAll(Arrays.asList(UnderTheRoof.class.getDeclaredClasses()));
        return all;
    }

    /** Rules 2, 5 and 11. */
    private static void inside() {
        DUE.holds("rule 11: some twelve classes", all().size() <= 12);
        for (Class<?> c : all()) {
            if (c != UnderTheRoof.class) {
                DUE.holds("rule 2: " + c + " is static", Modifier.isStatic(c.getModifiers()));
                DUE.holds("rule 1: " + c + " is not public", !Modifier.isPublic(c.getModifiers())
                    && !Modifier.isProtected(c.getModifiers()));
            }
            DUE.is("rule 2: classes in " + c, c == UnderTheRoof.class ? 0 : c.getDeclaredClasses().length, 0);
            int fields = 0;
            for (Field f : c.getDeclaredFields()) {
                boolean isStatic = Modifier.isStatic(f.getModifiers());
                fields += isStatic ? 0 : 1;
                DUE.holds("rule 5: " + f, !isStatic || Modifier.isFinal(f.getModifiers()));
            }
            DUE.holds("rule 11: fields of " + c + ": " + fields, fields <= 20);
            for (Method m : c.getDeclaredMethods()) {
                DUE.holds("rule 11: parameters of " + m, m.getParameterCount() <= 7);
                DUE.holds("no lambda: " + m, !m.isSynthetic());
            }
        }
    }

    private static String source() throws IOException {
        String all = Files.readString(Path.of("src/main/java/UnderTheRoof.java"));
        return all.replaceAll("(?s)/\\*.*?\\*/", "").replaceAll("//[^\n]*", "").replaceAll("\"[^\"\n]*\"", "\"\"");
    }

    /** Rules 1, 2, 4, 6 and 13. */
    private static void words() throws IOException {
        String source = source();
        for (String word : new String[] {"throw", "try", "catch", "finally", "synchronized", "assert", "import",
            "package", "throws", "instanceof", "Object", "Random", "Thread", "Scanner", "File", "nanoTime",
            "currentTimeMillis", "equals", "hashCode", "toString", "volatile", "native"}) {
            Matcher m = Pattern.compile("\\b" + word + "\\b").matcher(source);
            DUE.holds("rule 6 and others: no " + word, !m.find());
        }
        for (String sign : new String[] {"->", "::", "@", "while"}) {
            DUE.holds("no " + sign, !source.contains(sign));
        }
        Set<String> library = new TreeSet<>();
        Matcher m = Pattern.compile("\\b(Math|Integer|Long|System|Arrays|String|StringBuilder)\\.(\\w+)")
            .matcher(source);
        while (m.find()) {
            library.add(m.group());
        }
        DUE.holds("rule 4: the library " + library, Set.of("Math.min", "Math.max",
            "System.arraycopy").containsAll(library));
    }

    /** Rule 11: a method's lines, by the braces of the class's own layout. */
    private static void methodsAreShort() throws IOException {
        String[] lines = source().split("\n");
        for (int i = 0; i < lines.length; i++) {
            Matcher m = Pattern.compile("^( {4}| {8})[^ =;]+ [^=;]*\\) \\{$").matcher(lines[i]);
            if (m.find()) {
                int end = i;
                while (end < lines.length && !lines[end].equals(m.group(1) + "}")) {
                    end++;
                }
                DUE.holds("rule 11: " + (end - i + 1) + " lines:" + lines[i], end - i + 1 <= 60);
            }
        }
    }
}
