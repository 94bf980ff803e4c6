import java.io.IOException;
import java.nio.file.Files;
import java.nio.file.Path;
import java.util.function.Supplier;
import java.util.function.ToLongBiFunction;
import java.util.function.ToLongFunction;
import java.util.regex.Matcher;
import java.util.regex.Pattern;

/** Holds answers against the document sentence by sentence, and knows which of its words no test speaks of. */
final class Sentences {
    static final int TERMS = 0;
    static final int PROMISES = 45;
    static final int WHAT_IT_IS = 46;
    static final int FACE = 47;
    static final int NOT_PROMISED = 48;
    private static final int SECTIONS = 49;
    private static final String[] NAMED = {"What it is", "The public face", "Not promised"};

    private final String[] texts = new String[SECTIONS];
    private final String[] signatures = new String[SECTIONS];
    private final boolean[][] spokenOf = new boolean[SECTIONS][];
    private final String busyLook = Busy.look(Busy.make());
    private int section = 0;
    private String words = "";
    private int heldHere = 1;
    private int held = 0;
    private int sentences = 0;
    private int wrong = 0;

    Sentences(Path document) throws IOException {
        Matcher parts = Pattern.compile("(?s)## ([^\n]*)\n(.*?)(?=\n## |\\z)").matcher(Files.readString(document));
        while (parts.find()) {
            int number = sectionOf(parts.group(1));
            String text = parts.group(2).replaceAll("```\\w*", " ").replaceAll("\\s+", " ").trim();
            Matcher signature = Pattern.compile("^`([^`]*)`: ").matcher(text);
            if (signature.find()) {
                signatures[number] = signature.group(1);
                text = text.substring(signature.end());
            }
            texts[number] = text;
            spokenOf[number] = new boolean[text.length()];
        }
    }

    private static int sectionOf(String heading) {
        Matcher promise = Pattern.compile("Promise (\\d+): \\w+[\\w ]*").matcher(heading);
        if (promise.matches()) {
            return Integer.parseInt(promise.group(1));
        }
        for (int i = 0; i < NAMED.length; i++) {
            if (heading.equals(NAMED[i])) {
                return WHAT_IT_IS + i;
            }
        }
        if (heading.equals("Terms")) {
            return TERMS;
        }
        throw new IllegalStateException("a part of the document that no test knows: " + heading);
    }

    private static String nameOf(int section) {
        if (section == TERMS) {
            return "terms";
        }
        return section <= PROMISES ? "promise " + section : NAMED[section - WHAT_IT_IS];
    }

    String textOf(int itsSection) {
        return texts[itsSection];
    }

    /** How a promise writes the method that it is of. */
    String signatureOf(int promise) {
        return signatures[promise];
    }

    /** Begins the test of a sentence, or of a part of one, that stands in the document with these very words. */
    void sentence(int itsSection, String itsWords) {
        closeSentence();
        section = itsSection;
        words = itsWords;
        heldHere = 0;
        sentences++;
        int at = texts[section] == null ? -1 : texts[section].indexOf(words);
        if (at < 0) {
            complain("these words don't stand in the document");
            return;
        }
        for (int p = at; p < at + words.length(); p++) {
            spokenOf[section][p] = true;
        }
    }

    private void closeSentence() {
        if (heldHere == 0) {
            complain("no answer was looked at");
        }
    }

    private void complain(String what) {
        wrong++;
        System.out.println(nameOf(section) + ", \"" + words + "\": " + what);
    }

    void due(String call, long got, long want) {
        held++;
        heldHere++;
        if (got != want) {
            complain(call + " answered " + got + ", due is " + want);
        }
    }

    /** The call has that answer, and the busy object is behind it as one is that was never asked. */
    void refused(String call, ToLongFunction<SaysBath> asked, long want) {
        refused(call, Busy::make, busyLook, asked, want);
    }

    void refused(String call, Supplier<SaysBath> maker, ToLongFunction<SaysBath> asked, long want) {
        refused(call, maker, Busy.look(maker.get()), asked, want);
    }

    private void refused(String call, Supplier<SaysBath> maker, String look, ToLongFunction<SaysBath> asked, long want) {
        SaysBath bath = maker.get();
        due(call, asked.applyAsLong(bath), want);
        alike("behind " + call, Busy.look(bath), look);
    }

    void alike(String when, String got, String want) {
        held++;
        heldHere++;
        if (!got.equals(want)) {
            String[] here = got.split(" ");
            String[] there = want.split(" ");
            int at = 0;
            while (at < here.length - 1 && at < there.length - 1 && here[at].equals(there[at])) {
                at++;
            }
            complain(when + " there is " + here[at] + ", due is " + there[at]);
        }
    }

    /** Each argument in turn is one below its least, one above its most, and far off, the others at their bounds. */
    void outside(String name, long want, int[] least, int[] most, ToLongBiFunction<SaysBath, int[]> call) {
        outside(name, Busy::make, busyLook, want, least, most, call);
    }

    void outside(String name, Supplier<SaysBath> maker, String look, long want, int[] least, int[] most,
            ToLongBiFunction<SaysBath, int[]> call) {
        for (int argument = 0; argument < least.length; argument++) {
            int[] bad = {least[argument] - 1, most[argument] + 1, Integer.MIN_VALUE, Integer.MAX_VALUE};
            for (int value : bad) {
                for (int[] others : new int[][] {least, most}) {
                    int[] given = others.clone();
                    given[argument] = value;
                    String told = name + java.util.Arrays.toString(given);
                    refused(told, maker, look, bath -> call.applyAsLong(bath, given), want);
                }
            }
        }
    }

    /** Whether all answers were as due and no word of the document was left out. */
    boolean finish() {
        closeSentence();
        for (section = 0; section < SECTIONS; section++) {
            words = "";
            if (texts[section] == null) {
                complain("no such part of the document");
                continue;
            }
            Matcher word = Pattern.compile("\\w+").matcher(texts[section]);
            while (word.find()) {
                if (!spokenOf[section][word.start()]) {
                    complain("no test speaks of " + texts[section].substring(word.start()));
                    break;
                }
            }
        }
        System.out.println(sentences + " sentences, " + held + " answers looked at, " + wrong + " not as due");
        return wrong == 0;
    }
}
