import java.io.IOException;
import java.lang.reflect.Array;
import java.lang.reflect.Constructor;
import java.lang.reflect.Field;
import java.lang.reflect.Method;
import java.lang.reflect.Modifier;
import java.nio.file.Files;
import java.nio.file.Path;
import java.util.Collections;
import java.util.HashSet;
import java.util.IdentityHashMap;
import java.util.Set;
import java.util.TreeSet;
import java.util.regex.Matcher;
import java.util.regex.Pattern;

/** The rules of LANGUAGE.md that a program can look at: the face, words that are out, sizes, the room. */
public final class LanguageTest {
    private static final String SOURCE = "src/main/java/SaysBath.java";
    private static final String[] OUT = {"throw", "throws", "try", "catch", "finally", "synchronized", "assert",
        "import", "package", "->", "::", "record", "System.out", "Random", "Thread", "hashCode", "toString",
        "Exact", "NaN", "protected", "native", "volatile", "transient", "goto", "var", "Object", "static {"};
    private static final int ELEMENTS_AT_MOST = 60000;
    private static final int OBJECTS_AT_MOST = 200;
    private static final int LINES_OF_A_METHOD = 60;

    private static int wrong = 0;

    private LanguageTest() {
    }

    private static void check(boolean good, String what) {
        if (!good) {
            wrong++;
            System.out.println("not as the rules ask: " + what);
        }
    }

    public static void main(String[] args) throws IOException {
        String source = Files.readString(Path.of(SOURCE));
        words(source);
        face();
        sizes(source);
        room();
        System.out.println(wrong == 0 ? "the rules are kept" : wrong + " rules are not kept");
        if (wrong != 0) {
            System.exit(1);
        }
    }

    private static void words(String source) {
        String code = source.replaceAll("(?s)/\\*.*?\\*/", "").replaceAll("//[^\n]*", "");
        for (String word : OUT) {
            String edge = Character.isLetter(word.charAt(0)) && !word.equals("Exact") ? "\\b" : "";
            String tail = Character.isLetter(word.charAt(word.length() - 1)) ? "\\b" : "";
            check(!Pattern.compile(edge + Pattern.quote(word) + tail).matcher(code).find(), "the word " + word);
        }
        check(source.chars().allMatch(c -> c < 128), "signs beyond 127");
        Matcher calls = Pattern.compile("\\b(Math|Integer|Long|System|Arrays|String)\\.(\\w+)").matcher(code);
        while (calls.find()) {
            check(Set.of("min", "max", "bitCount", "arraycopy", "MAX_VALUE").contains(calls.group(2)), calls.group());
        }
    }

    private static void face() {
        String document;
        try {
            document = Files.readString(Path.of("../shared/DOC.md"));
        } catch (IOException e) {
            check(false, "no document: " + e);
            return;
        }
        Set<String> due = new TreeSet<>();
        Matcher said = Pattern.compile("    public (int|long) (\\w+)\\((.*?)\\);").matcher(document);
        while (said.find()) {
            due.add(said.group(1) + " " + said.group(2) + "(" + said.group(3).replaceAll(" \\w+(,|$)", "$1") + ")");
        }
        Set<String> there = new TreeSet<>();
        Set<String> names = new HashSet<>();
        Set<String> hidden = new HashSet<>();
        for (Method m : SaysBath.class.getDeclaredMethods()) {
            if (Modifier.isPublic(m.getModifiers())) {
                there.add(m.getReturnType() + " " + m.getName() + types(m.getParameterTypes()));
                names.add(m.getName());
            } else {
                check(Modifier.isPrivate(m.getModifiers()), "a method that is not private: " + m);
                hidden.add(m.getName());
            }
        }
        check(due.size() == 44, "methods in the document: " + due.size());
        check(there.equals(due), "the face is " + there + " and not " + due);
        for (Field f : SaysBath.class.getDeclaredFields()) {
            check(Modifier.isPrivate(f.getModifiers()) || f.getName().equals("NONE"), "a field: " + f);
            check(!Modifier.isStatic(f.getModifiers()) || Modifier.isFinal(f.getModifiers()), "static and free: " + f);
        }
        for (Class<?> c : SaysBath.class.getDeclaredClasses()) {
            check(Modifier.isStatic(c.getModifiers()), "a class that is not static: " + c);
            for (Method m : c.getDeclaredMethods()) {
                hidden.add(m.getName());
                check(m.getParameterCount() <= 7, "too many parameters: " + m);
            }
            int fields = 0;
            for (Field f : c.getDeclaredFields()) {
                fields += Modifier.isStatic(f.getModifiers()) ? 0 : 1;
            }
            check(fields <= 20, "too many fields: " + c);
        }
        check(SaysBath.class.getDeclaredClasses().length < 12, "too many classes");
        Constructor<?>[] made = SaysBath.class.getDeclaredConstructors();
        check(made.length == 1 && Modifier.isPublic(made[0].getModifiers()), "the constructor");
        check(Modifier.isFinal(SaysBath.class.getModifiers()), "the class is final");
        check(Collections.disjoint(names, hidden), "a method inside bears a public one's name");
    }

    private static String types(Class<?>[] types) {
        StringBuilder b = new StringBuilder("(");
        for (Class<?> type : types) {
            b.append(b.length() > 1 ? ", " : "").append(type);
        }
        return b.append(")").toString();
    }

    private static void sizes(String source) {
        int begin = 0;
        String name = "";
        String[] lines = source.split("\n");
        for (int i = 0; i < lines.length; i++) {
            boolean opens = lines[i].matches(" +[\\w\\[\\] ]+\\([\\w\\[\\], ]*\\) \\{") && !lines[i].contains("else");
            if (opens && !lines[i].trim().startsWith("if") && !lines[i].trim().startsWith("while")) {
                begin = i;
                name = lines[i].trim();
            }
            if (lines[i].matches(" {4}( {4})?\\}")) {
                check(i - begin < LINES_OF_A_METHOD || name.isEmpty(), "a long method: " + name);
                name = "";
            }
            check(lines[i].length() <= 120, "a long line: " + (i + 1));
        }
    }

    /** What an object with all its IMAGES holds, and that calls add nothing to it. */
    private static void room() {
        SaysBath bath = Texts.withLand("village size 1;village size 2;road 0 1;item of 2 standard 0;says 0 0 1;");
        for (int k = 0; k < 3; k++) {
            bath.keep(k);
        }
        long[] before = {0, 0};
        count(bath, new IdentityHashMap<>(), before);
        check(before[0] <= OBJECTS_AT_MOST, "objects of one: " + before[0]);
        check(before[1] <= ELEMENTS_AT_MOST, "fields and elements of one: " + before[1]);
        for (int i = 0; i < 100; i++) {
            bath.keep(i % 3);
            bath.back(i % 3);
            bath.row(i % 4, i % 4, i % 60);
            Texts.put(bath, "village size 1;item of 2 standard 1;law 0 0 to 1 if 1 more 0;");
            bath.land();
            bath.tells(60);
        }
        long[] after = {0, 0};
        count(bath, new IdentityHashMap<>(), after);
        check(after[0] == before[0] && after[1] == before[1], "calls make an object grow");
        System.out.println("an object with all IMAGES: " + before[0] + " objects, " + before[1] + " fields and elements");
    }

    private static void count(Object o, IdentityHashMap<Object, Boolean> seen, long[] sums) {
        if (o == null || seen.put(o, true) != null) {
            return;
        }
        sums[0]++;
        try {
            if (o.getClass().isArray()) {
                sums[1] += Array.getLength(o);
                for (int i = 0; i < Array.getLength(o) && !o.getClass().getComponentType().isPrimitive(); i++) {
                    count(Array.get(o, i), seen, sums);
                }
                return;
            }
            for (Field f : o.getClass().getDeclaredFields()) {
                if (!Modifier.isStatic(f.getModifiers())) {
                    sums[1]++;
                    f.setAccessible(true);
                    if (!f.getType().isPrimitive()) {
                        count(f.get(o), seen, sums);
                    }
                }
            }
        } catch (IllegalAccessException e) {
            check(false, "can't look into " + o.getClass());
        }
    }
}
