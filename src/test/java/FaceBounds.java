import java.lang.reflect.Constructor;
import java.lang.reflect.Field;
import java.lang.reflect.InvocationTargetException;
import java.lang.reflect.Method;
import java.lang.reflect.Modifier;
import java.util.ArrayList;
import java.util.Arrays;
import java.util.List;
import java.util.Set;
import java.util.TreeSet;
import java.util.regex.Matcher;
import java.util.regex.Pattern;

/** What stands ahead of the terms and behind the promises: what the class is for, its face, how long an object serves. */
final class FaceBounds {
    private static final int NONE = -1;
    private static final int CALLS = 512;
    /**
     * A ring of four VILLAGES. ITEM 0 spreads from VILLAGE 0 to 1 in YEAR 2, to 2 in YEAR 12, to 3 in YEAR 13; ITEMS 1
     * and 2 stay.
     */
    private static final String RING = "village size 50;village size 10;village size 20;village size 30;"
            + "road 0 1;road 1 2;road 2 3 river;road 3 0;"
            + "item of 3 standard 2;item of 2 standard 0;item of 2 standard 1;"
            + "says 0 0 1;says 2 1 1;says 3 1 1;says 3 2 1;law 0 0 to 1 if near 1 times 10 plus year more size;";
    /** Calls that change something, as the promises tell; all others only ask. */
    private static final Set<String> CHANGING = Set.of("feed", "end", "land", "hear", "hears", "mute", "note", "walk",
            "keep", "back", "row", "write", "paste");

    private final Sentences doc;

    private FaceBounds(Sentences doc) {
        this.doc = doc;
    }

    static void all(Sentences doc) {
        FaceBounds bounds = new FaceBounds(doc);
        bounds.whereFrom();
        bounds.landAndLines();
        bounds.voice();
        bounds.notebooks();
        bounds.images();
        bounds.howLong();
        bounds.face();
        bounds.signatures();
        bounds.notPromised();
    }

    private void sentence(String words) {
        doc.sentence(Sentences.WHAT_IT_IS, words);
    }

    private void whereFrom() {
        sentence("Where one is from by how one says it:");
        for (int year : new int[] {0, 1, 2, 12, 13, 60}) {
            SaysBath x = Texts.withLand(RING);
            for (int v = 0; v < 4; v++) {
                int alike = 0;
                for (int item = 0; item < 3; item++) {
                    x.hear(item, x.says(v, item, year), false);
                }
                for (int w = 0; w < 4; w++) {
                    alike |= saysAlike(x, v, w, year) ? 1 << w : 0;
                }
                doc.due("whole(" + year + ") of a voice from " + v, x.whole(year), alike);
                doc.due("from(" + year + ") of a voice from " + v, x.from(year), Integer.numberOfTrailingZeros(alike));
            }
        }
    }

    private static boolean saysAlike(SaysBath x, int v, int w, int year) {
        for (int item = 0; item < 3; item++) {
            if (x.says(v, item, year) != x.says(w, item, year)) {
                return false;
            }
        }
        return true;
    }

    private void landAndLines() {
        SaysBath x = Texts.withLand(RING);
        sentence("a land of villages and roads,");
        doc.due("VILLAGES", x.count(1), 4);
        doc.due("ROADS", x.count(2), 4);

        sentence("items said in several ways that spread by laws year by year,");
        int[][] saying = {{0, 1}, {1, 1}, {2, 3}, {11, 3}, {12, 7}, {13, 15}, {60, 15}};
        for (int[] pair : saying) {
            for (int v = 0; v < 4; v++) {
                doc.due("says(" + v + ", 0, " + pair[0] + ")", x.says(v, 0, pair[0]), pair[1] >> v & 1);
            }
        }
        doc.due("still(0)", x.still(0), 13);

        sentence("lines that bundle and fan,");
        int[] bundles = {1, 1, 1, 3};
        for (int road = 0; road < 4; road++) {
            doc.due("bundle(" + road + ", 0)", x.bundle(road, 0), bundles[road]);
        }
        for (int item = 0; item < 3; item++) {
            doc.due("lines(" + item + ", 0)", x.lines(item, 0), 2);
        }
        doc.due("thick(0)", x.thick(0), 3);

        sentence("areas,");
        doc.due("areas(1, 0)", x.areas(1, 0), 4);
        doc.due("areas(2, 0)", x.areas(2, 0), 1);
        doc.due("areas(1, 13)", x.areas(1, 13), 3);
        doc.due("area(1, 1, 13)", x.area(1, 1, 13), 0);

        sentence("what lines follow,");
        long[] ways = {1, 3, 6};
        for (int what = 0; what < 3; what++) {
            doc.due("river(2, 0, " + what + ")", x.river(2, 0, what), ways[what]);
        }

        sentence("the fewest items that tell villages apart;");
        doc.due("tells(0)", x.tells(0), 7);
        doc.due("tells(13)", x.tells(13), NONE);
        int[] alone = {1, 3, 6, 4};
        for (int v = 0; v < 4; v++) {
            doc.due("alone(" + v + ", 0)", x.alone(v, 0), alone[v]);
        }
    }

    private void voice() {
        SaysBath x = Texts.withLand(RING);
        sentence("a voice that is heard item by item,");
        for (int item = 0; item < 3; item++) {
            doc.due("hear(" + item + ", 1, false)", x.hear(item, 1, false), item + 1);
        }

        sentence("two places in one voice,");
        doc.due("two(0)", x.two(0), 3);
        sentence("what goes together nowhere;");
        doc.due("nowhere(0, 0)", x.nowhere(0, 0), 2);
        doc.due("nowhere(0, 1)", x.nowhere(0, 1), 1);
        x.mute();

        sentence("to a cow or to a clerk:");
        x.hear(0, 2, false);
        doc.due("to a cow", x.heard(0), 2);
        doc.due("nobody says so", x.whole(0), 0);
        x.hear(0, 2, true);
        doc.due("to a clerk", x.heard(0), 102);
        doc.due("anybody may", x.whole(0), 15);

        sentence("whom it fits,");
        x.hear(1, 1, false);
        int[] fits = {1, 1, 2, 2};
        for (int v = 0; v < 4; v++) {
            doc.due("fits(" + v + ", 0)", x.fits(v, 0), fits[v]);
        }

        sentence("what to ask next,");
        doc.due("of VILLAGES 2 and 3", x.next(0), 2);
        x.mute();
        doc.due("of all", x.next(0), 1);
    }

    private void notebooks() {
        SaysBath x = Texts.withLand(RING);
        sentence("notebooks of answers with exact odds,");
        for (int item = 0; item < 3; item++) {
            x.hear(item, 1, false);
        }
        x.note(3, 0, 0, 4);
        x.note(3, 1, 1, 2);
        x.note(3, 2, 1, 1);
        doc.due("odds(3, false)", x.odds(3, false), 1);
        doc.due("odds(3, true)", x.odds(3, true), 14);
        doc.due("odds(0, false)", x.odds(0, false), 1);
        doc.due("odds(0, true)", x.odds(0, true), 12);
        doc.due("likely()", x.likely(), 0);
        doc.due("ahead(3)", x.ahead(3), 3);

        sentence("askers who lean;");
        x.note(0, 0, 1, 1);
        x.note(2, 0, 0, 1);
        x.walk(3, 4);
        x.walk(2, 4);
        x.walk(0, 2);
        doc.due("leans(4, 0)", x.leans(4, 0), 1);
        doc.due("lean(4, 0)", x.lean(4, 0), 0);
        doc.due("lean(2, 0)", x.lean(2, 0), 1);
    }

    private void images() {
        sentence("and images gone back to.");
        SaysBath x = Busy.make();
        x.keep(2);
        String kept = Busy.scene(x);
        x.end(0);
        Texts.put(x, RING);
        x.land();
        x.hear(0, 1, false);
        Busy.refuseLand(x);
        x.back(2);
        doc.alike("behind back(2)", Busy.scene(x), kept);
    }

    /** An object behind so many calls, the last of them asking ones; the LAND is the ring. */
    private static SaysBath used(int calls) {
        SaysBath bath = Texts.withLand(RING);
        // Texts.put asks for the TAPE's bytes, feeds, and cuts.
        int done = 1 + (RING.length() + 19) / 20 + 1 + 1;
        for (; done < calls; done++) {
            bath.says(done % 4, done % 3, done % 61);
        }
        return bath;
    }

    private void howLong() {
        sentence("An object is used for at most 512 calls after it has been made;");
        doc.due("the 512th call, says", used(CALLS - 1).says(3, 0, 13), 1);
        doc.due("the 512th call, tells", used(CALLS - 1).tells(0), 7);
        doc.due("the 512th call, hear", used(CALLS - 1).hear(2, 1, true), 1);
        doc.due("the 512th call, note", used(CALLS - 1).note(3, 2, 1, 9), 9);
        doc.due("the 512th call, keep", used(CALLS - 1).keep(2), 0);
        doc.due("the 512th call, row", used(CALLS - 1).row(3, 3, 60), 0);
        doc.due("the 512th call, feed", used(CALLS - 1).feed(1, 2, 3, 4, 5), 20);
        doc.due("the 512th call, land", used(CALLS - 1).land(), 0);
        SaysBath x = new SaysBath();
        for (int call = 1; call < CALLS; call++) {
            x.land();
        }
        doc.due("the 512th land()", x.land(), 0);
        x = Texts.withLand(RING);
        for (int call = 20; call < CALLS - 4; call += 2) {
            x.keep(call / 2 % 3);
            x.back(call / 2 % 3);
        }
        doc.due("behind some 500 of keep() and back()", x.says(3, 0, 13), 1);

        sentence("what later calls answer is free.");
        doc.due("later calls that throw", throwing(used(CALLS)), 0);
        doc.due("calls that throw on an object that was used for long", throwing(used(20 * CALLS)), 0);
    }

    /** Of calls of each method with all kinds of arguments: how many throw; LANGUAGE.md (7) lets none. */
    private static int throwing(SaysBath bath) {
        int[] values = {0, 1, NONE, 3, 61, Integer.MAX_VALUE, Integer.MIN_VALUE};
        int found = 0;
        for (Method m : SaysBath.class.getDeclaredMethods()) {
            for (int turn = 0; turn < 40 && Modifier.isPublic(m.getModifiers()); turn++) {
                Object[] given = new Object[m.getParameterCount()];
                for (int i = 0; i < given.length; i++) {
                    int value = values[(turn * (i + 1) + turn / 7) % values.length];
                    Class<?> type = m.getParameterTypes()[i];
                    given[i] = type == boolean.class ? (Object) (value > 0) : type == long.class ? (Object) (long) value : value;
                }
                try {
                    m.invoke(bath, given);
                } catch (IllegalAccessException | InvocationTargetException e) {
                    found++;
                    System.out.println(m.getName() + Arrays.toString(given) + " threw " + e.getCause());
                }
            }
        }
        return found;
    }

    private void face() {
        Set<String> there = membersThere();
        Set<String> due = new TreeSet<>();
        Matcher line = Pattern.compile("public [^;{]*;").matcher(doc.textOf(Sentences.FACE));
        doc.sentence(Sentences.FACE, "public final class SaysBath {");
        int modifiers = SaysBath.class.getModifiers();
        doc.due("public and final", Modifier.isPublic(modifiers) && Modifier.isFinal(modifiers) ? 1 : 0, 1);
        doc.due("of no other class and no interface", SaysBath.class.getSuperclass() == Object.class
                ? SaysBath.class.getInterfaces().length : NONE, 0);
        while (line.find()) {
            doc.sentence(Sentences.FACE, line.group());
            String member = plain(line.group());
            due.add(member);
            doc.due(member, there.contains(member) ? 1 : 0, 1);
        }
        doc.due("members of the face", due.size(), 46);
        there.removeAll(due);
        doc.due("members beside it: " + there, there.size(), 0);
    }

    /** Without the names of the arguments, and with a constant's number as it stands. */
    private static String plain(String member) {
        return member.replaceAll("(int|long|boolean) \\w+(?=[,)])", "$1").replaceAll(";", "");
    }

    private static Set<String> membersThere() {
        Set<String> there = new TreeSet<>();
        for (Field f : SaysBath.class.getDeclaredFields()) {
            if (!Modifier.isPrivate(f.getModifiers())) {
                there.add(Modifier.toString(f.getModifiers()) + " " + f.getType() + " " + f.getName() + " = " + SaysBath.NONE);
            }
        }
        for (Constructor<?> c : SaysBath.class.getDeclaredConstructors()) {
            there.add(Modifier.toString(c.getModifiers()) + " " + c.getName() + types(c.getParameterTypes()));
        }
        for (Method m : SaysBath.class.getDeclaredMethods()) {
            if (!Modifier.isPrivate(m.getModifiers())) {
                there.add(Modifier.toString(m.getModifiers()) + " " + m.getReturnType() + " " + m.getName()
                        + types(m.getParameterTypes()));
            }
        }
        return there;
    }

    private static String types(Class<?>[] types) {
        List<String> names = new ArrayList<>();
        for (Class<?> type : types) {
            names.add(type.getName());
        }
        return "(" + String.join(", ", names) + ")";
    }

    /** Each promise writes its method as the face does. */
    private void signatures() {
        Set<String> promised = new TreeSet<>();
        for (int promise = 1; promise <= Sentences.PROMISES; promise++) {
            doc.sentence(Sentences.FACE, "public " + doc.signatureOf(promise) + ";");
            doc.due("promised for the first time", promised.add(doc.signatureOf(promise)) ? 1 : 0, 1);
        }
    }

    private void notPromised() {
        doc.sentence(Sentences.NOT_PROMISED, "How the state is held inside the object is free, as are the speed of each call, "
                + "the text of toString and the behaviour of equals and hashCode.");
        SaysBath x = Busy.make();
        int own = 0;
        for (Method m : SaysBath.class.getDeclaredMethods()) {
            own += Set.of("toString", "equals", "hashCode").contains(m.getName()) ? 1 : 0;
        }
        doc.due("of its own", own, 0);
        int told = x.toString().length() + x.hashCode() + (x.equals(null) ? 1 : 0);
        doc.alike("behind them, whatever they tell (" + told + ")", Busy.look(x), Busy.look(Busy.make()));

        doc.sentence(Sentences.NOT_PROMISED, "Use of one object from several threads at once is not promised to be safe.");
        String[] looks = new String[8];
        Thread[] threads = new Thread[looks.length];
        for (int t = 0; t < threads.length; t++) {
            int its = t;
            threads[t] = new Thread(() -> looks[its] = Busy.look(Busy.make()));
            threads[t].start();
        }
        for (int t = 0; t < threads.length; t++) {
            try {
                threads[t].join();
            } catch (InterruptedException e) {
                throw new IllegalStateException(e);
            }
            doc.alike("one object each of several threads", looks[t], Busy.look(Busy.make()));
        }

        doc.sentence(Sentences.NOT_PROMISED, "Nothing is promised beyond the answers and state changes described above, and "
                + "nothing about an object after its 512th call.");
        onlyAsking();
        twoObjects();
    }

    private void onlyAsking() {
        int[] values = {0, 1, 2, 60, NONE};
        String look = Busy.look(Busy.make());
        for (Method m : SaysBath.class.getDeclaredMethods()) {
            if (!Modifier.isPublic(m.getModifiers()) || CHANGING.contains(m.getName())) {
                continue;
            }
            SaysBath x = Busy.make();
            for (int turn = 0; turn < values.length * values.length; turn++) {
                Object[] given = new Object[m.getParameterCount()];
                for (int i = 0; i < given.length; i++) {
                    int value = values[(i == 0 ? turn : turn / values.length) % values.length];
                    given[i] = m.getParameterTypes()[i] == boolean.class ? (Object) (value > 0) : value;
                }
                try {
                    m.invoke(x, given);
                } catch (IllegalAccessException | InvocationTargetException e) {
                    doc.due(m.getName() + Arrays.toString(given) + " threw " + e.getCause(), 1, 0);
                }
            }
            doc.alike("behind " + m.getName(), Busy.look(x), look);
        }
    }

    /** What is done with one object is nothing to another. */
    private void twoObjects() {
        SaysBath first = Busy.make();
        SaysBath second = Texts.withLand(Busy.FULL);
        String look = Busy.look(Texts.withLand(Busy.FULL));
        first.land();
        first.keep(1);
        first.hear(9, 4, true);
        first.row(2, 2, 3);
        doc.alike("the second, behind calls of the first", Busy.look(second), look);
        doc.due("the first, behind calls of the second", first.count(3), 10);
        doc.due("HEARD", first.heard(9), 104);
    }
}
