import java.lang.reflect.InvocationTargetException;
import java.lang.reflect.Method;
import java.util.ArrayList;
import java.util.Arrays;
import java.util.List;
import java.util.Random;

/** Long runs of calls with fair, odd and far arguments, each answer held against NaiveBath's. */
public final class RandomRunsTest {
    private static final int RUNS = 800;
    /** What later calls answer is free. */
    private static final int CALLS = 512;
    private static final int CALLS_OF_A_LAND = 80;

    /** A method and a letter for each argument: what numbers make sense there. */
    private static final String[][] CALLED = {
        {"says", "viy"}, {"turned", "viy"}, {"lines", "iy"}, {"bundle", "ry"}, {"thick", "y"}, {"crossed", "ky"},
        {"areas", "ky"}, {"area", "vky"}, {"moved", "iyy"}, {"still", "i"}, {"river", "iyw"}, {"tells", "y"},
        {"alone", "vy"}, {"hear", "iab"}, {"hear", "iab"}, {"hear", "iab"}, {"hear", "iab"}, {"hears", "s"},
        {"mute", ""}, {"heard", "i"}, {"fits", "vy"}, {"whole", "y"}, {"from", "y"}, {"next", "y"}, {"two", "y"},
        {"nowhere", "yw"}, {"note", "vian"}, {"note", "vian"}, {"note", "vian"}, {"note", "vian"}, {"note", "vian"},
        {"note", "vian"}, {"note", "vian"}, {"note", "vian"}, {"noted", "via"}, {"mostly", "vi"}, {"off", "iy"},
        {"odds", "vb"}, {"likely", ""}, {"ahead", "v"}, {"walk", "vp"}, {"walk", "vp"}, {"walk", "vp"},
        {"leans", "pi"}, {"lean", "pi"}, {"village", "vw"}, {"count", "c"}, {"keep", "w"}, {"back", "w"},
        {"row", "swm"}, {"write", "stl"}, {"write", "stl"}, {"write", "stl"}, {"paste", "ststm"}, {"end", "e"},
        {"fault", "w"},
    };

    private final Random random;
    private final int run;
    private final SaysBath bath = new SaysBath();
    private final NaiveBath naive = new NaiveBath();
    private final List<String> calls = new ArrayList<>();
    private boolean wrong = false;

    private RandomRunsTest(int run) {
        this.run = run;
        this.random = new Random(7919L * run + 1);
    }

    public static void main(String[] args) throws Exception {
        int runs = args.length > 0 ? Integer.parseInt(args[0]) : RUNS;
        int lands = 0;
        int faults = 0;
        int leaning = 0;
        for (int run = 0; run < runs; run++) {
            RandomRunsTest test = new RandomRunsTest(run);
            test.go();
            if (test.wrong) {
                System.exit(1);
            }
            for (String call : test.calls) {
                faults += call.startsWith("land() = -4") ? 1 : 0;
                lands += call.startsWith("land()") ? 1 : 0;
                leaning += call.startsWith("leans") && call.endsWith("= 1") ? 1 : 0;
            }
        }
        System.out.println(runs + " runs, " + lands + " lands with " + faults + " faults, " + leaning + " leanings");
    }

    private void go() throws Exception {
        boolean few = random.nextInt(3) == 0;
        while (calls.size() < CALLS && !wrong) {
            boolean room = calls.size() + CALLS_OF_A_LAND <= CALLS;
            if (calls.isEmpty() || room && random.nextInt(few ? 150 : 25) == 0) {
                readLand();
            } else {
                String[] what = CALLED[random.nextInt(CALLED.length)];
                compare(what[0], what[1]);
            }
        }
    }

    private void readLand() throws Exception {
        String text = LandTexts.text(random);
        if (random.nextInt(3) == 0) {
            text = LandTexts.broken(text, random);
        }
        int before = naive.count(5);
        for (int at = 0; at < text.length() && !wrong; at += 20) {
            int[] n = new int[5];
            for (int i = 0; i < 5; i++) {
                n[i] = Texts.number(text, at + 4 * i);
            }
            hold("feed" + Arrays.toString(n), bath.feed(n[0], n[1], n[2], n[3], n[4]), naive.feed(n));
        }
        int cut = before + text.length();
        hold("end(" + cut + ")", bath.end(cut), naive.end(cut));
        hold("land()", bath.land(), naive.land());
        hold("fault(0)", bath.fault(0), naive.fault(0));
        hold("fault(1)", bath.fault(1), naive.fault(1));
        for (int what = 0; what < 9; what++) {
            hold("count(" + what + ")", bath.count(what), naive.count(what));
        }
    }

    private void compare(String name, String letters) throws Exception {
        Object[] values = new Object[letters.length()];
        Class<?>[] types = new Class<?>[letters.length()];
        for (int i = 0; i < values.length; i++) {
            char letter = letters.charAt(i);
            values[i] = value(letter);
            types[i] = letter == 'b' ? boolean.class : letter == 'l' ? long.class : int.class;
        }
        Method ours = SaysBath.class.getMethod(name, types);
        Method theirs = NaiveBath.class.getDeclaredMethod(name, types);
        long due = ((Number) theirs.invoke(naive, values)).longValue();
        String call = name + Arrays.toString(values);
        try {
            hold(call, ((Number) ours.invoke(bath, values)).longValue(), due);
        } catch (InvocationTargetException e) {
            wrong = true;
            System.out.println("run " + run + ": " + call + " threw " + e.getCause());
        }
    }

    private void hold(String call, long got, long due) {
        calls.add(call + " = " + got);
        if (got != due) {
            wrong = true;
            System.out.println("run " + run + ", behind " + calls.size() + " calls: " + call + " answered " + got
                    + ", due is " + due);
        }
    }

    private Object value(char letter) {
        if (letter == 'b') {
            return random.nextBoolean();
        }
        if (letter == 'l') {
            return random.nextInt(4) == 0 ? random.nextLong() : (long) random.nextInt(10) + (random.nextInt(8) == 0
                    ? 1L << 8 * random.nextInt(8) : 0);
        }
        if (random.nextInt(40) == 0) {
            int[] far = {Integer.MIN_VALUE, Integer.MAX_VALUE, -1, -2, 61, 60, 24, 25, 10, 11, 1000000, 40, 41};
            return far[random.nextInt(far.length)];
        }
        switch (letter) {
            case 'v':
                return random.nextInt(random.nextBoolean() ? Math.min(naive.count(1), 4) + 1 : naive.count(1) + 1);
            case 'i':
                // Often the first ITEM, so that enough is NOTED of one for ASKERS to LEAN.
                return random.nextBoolean() ? 0 : random.nextInt(naive.count(3) + 1);
            case 'r':
                return random.nextInt(naive.count(2) + 1);
            case 'y':
                return random.nextInt(3) == 0 ? random.nextInt(62) : random.nextInt(4);
            case 'a':
                return random.nextInt(random.nextBoolean() ? 2 : 5);
            case 'k':
                return random.nextInt(random.nextBoolean() ? 4 : 13);
            case 'n':
                return 1 + random.nextInt(5);
            case 'p':
                return random.nextInt(random.nextBoolean() ? 2 : 7);
            case 's':
                return random.nextInt(4);
            case 'c':
                return random.nextInt(10);
            case 'w':
                return random.nextInt(4);
            case 'm':
                return random.nextInt(random.nextBoolean() ? 6 : 62) - 1;
            case 't':
                return random.nextInt(random.nextBoolean() ? 6 : 60);
            case 'e':
                return naive.count(5) - random.nextInt(3) + 1;
            default:
                throw new IllegalStateException("no such letter: " + letter);
        }
    }
}
