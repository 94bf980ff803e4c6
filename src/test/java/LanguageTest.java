import java.io.IOException;
import java.lang.reflect.Array;
import java.lang.reflect.Field;
import java.lang.reflect.Modifier;
import java.nio.file.Files;
import java.nio.file.Path;
import java.util.IdentityHashMap;

/** The rules of LANGUAGE.md that a program can look at, and the room that an object takes. */
public final class LanguageTest {
    private static final Path SOURCE = Path.of("src/main/java/SaysBath.java");
    private static final int ELEMENTS_AT_MOST = 60000;
    private static final int OBJECTS_AT_MOST = 200;
    private static final int COLUMNS = 120;

    private static int wrong = 0;

    private LanguageTest() {
    }

    private static void check(boolean good, String what) {
        if (!good) {
            wrong++;
            System.out.println("not as the rules ask: " + what);
        }
    }

    public static void main(String[] args) throws IOException {
        Path source = args.length > 0 ? Path.of(args[0]) : SOURCE;
        Syntax.look(source, (rule, what) -> check(false, "rule " + rule + ": " + what));
        for (String line : Files.readAllLines(source)) {
            check(line.length() <= COLUMNS && line.chars().allMatch(c -> c < 128), "a line: " + line);
        }
        room();
        System.out.println(wrong == 0 ? "the rules are kept" : wrong + " rules are not kept");
        if (wrong != 0) {
            System.exit(1);
        }
    }

    /** What an object with all its IMAGES holds, and that calls add nothing to it. */
    private static void room() {
        SaysBath bath = Texts.withLand("village size 1;village size 2;road 0 1;item of 2 standard 0;says 0 0 1;");
        for (int k = 0; k < 3; k++) {
            bath.keep(k);
        }
        long[] before = {0, 0};
        count(bath, new IdentityHashMap<>(), before);
        check(before[0] <= OBJECTS_AT_MOST, "objects of one: " + before[0]);
        check(before[1] <= ELEMENTS_AT_MOST, "fields and elements of one: " + before[1]);
        for (int i = 0; i < 40; i++) {
            bath.keep(i % 3);
            bath.back(i % 3);
            bath.row(i % 4, i % 4, i % 60);
            Texts.put(bath, "village size 1;item of 2 standard 1;law 0 0 to 1 if 1 more 0;");
            bath.land();
            bath.tells(60);
        }
        long[] after = {0, 0};
        count(bath, new IdentityHashMap<>(), after);
        check(after[0] == before[0] && after[1] == before[1], "calls make an object grow");
        System.out.println("an object with all IMAGES: " + before[0] + " objects, " + before[1] + " fields and elements");
    }

    private static void count(Object o, IdentityHashMap<Object, Boolean> seen, long[] sums) {
        if (o == null || seen.put(o, true) != null) {
            return;
        }
        sums[0]++;
        try {
            if (o.getClass().isArray()) {
                sums[1] += Array.getLength(o);
                for (int i = 0; i < Array.getLength(o) && !o.getClass().getComponentType().isPrimitive(); i++) {
                    count(Array.get(o, i), seen, sums);
                }
                return;
            }
            for (Field f : o.getClass().getDeclaredFields()) {
                if (!Modifier.isStatic(f.getModifiers())) {
                    sums[1]++;
                    f.setAccessible(true);
                    if (!f.getType().isPrimitive()) {
                        count(f.get(o), seen, sums);
                    }
                }
            }
        } catch (IllegalAccessException e) {
            check(false, "can't look into " + o.getClass());
        }
    }
}
