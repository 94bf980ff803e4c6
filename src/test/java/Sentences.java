import java.io.IOException;
import java.nio.file.Files;
import java.nio.file.Path;
import java.util.function.Supplier;
import java.util.function.ToLongBiFunction;
import java.util.function.ToLongFunction;
import java.util.regex.Matcher;
import java.util.regex.Pattern;

/** Holds answers against the document sentence by sentence, and knows which of its words no test speaks of. */
final class Sentences {
    static final int TERMS = 0;
    private static final int PROMISES = 45;

    private final String[] texts = new String[PROMISES + 1];
    private final boolean[][] spokenOf = new boolean[PROMISES + 1][];
    private final String busyLook = Busy.look(Busy.make());
    private int section = 0;
    private String words = "";
    private int heldHere = 1;
    private int held = 0;
    private int sentences = 0;
    private int wrong = 0;

    Sentences(Path document) throws IOException {
        Matcher parts = Pattern.compile("(?s)## (Terms|Promise (\\d+):[^\n]*)\n(.*?)(?=\n## )")
                .matcher(Files.readString(document));
        while (parts.find()) {
            int number = parts.group(2) == null ? TERMS : Integer.parseInt(parts.group(2));
            String text = parts.group(3).replaceAll("```\\w*", " ").replaceAll("\\s+", " ").trim();
            if (number != TERMS) {
                text = text.replaceFirst("^`[^`]*`: ", "");
            }
            texts[number] = text;
            spokenOf[number] = new boolean[text.length()];
        }
    }

    /** Begins the test of a sentence, or of a part of one, that stands in the document with these very words. */
    void sentence(int itsSection, String itsWords) {
        closeSentence();
        section = itsSection;
        words = itsWords;
        heldHere = 0;
        sentences++;
        int at = texts[section] == null ? -1 : texts[section].indexOf(words);
        if (at < 0) {
            complain("these words don't stand in the document");
            return;
        }
        for (int p = at; p < at + words.length(); p++) {
            spokenOf[section][p] = true;
        }
    }

    private void closeSentence() {
        if (heldHere == 0) {
            complain("no answer was looked at");
        }
    }

    private void complain(String what) {
        wrong++;
        System.out.println((section == TERMS ? "terms" : "promise " + section) + ", \"" + words + "\": " + what);
    }

    void due(String call, long got, long want) {
        held++;
        heldHere++;
        if (got != want) {
            complain(call + " answered " + got + ", due is " + want);
        }
    }

    /** The call has that answer, and the busy object is behind it as one is that was never asked. */
    void refused(String call, ToLongFunction<SaysBath> asked, long want) {
        refused(call, Busy::make, busyLook, asked, want);
    }

    void refused(String call, Supplier<SaysBath> maker, ToLongFunction<SaysBath> asked, long want) {
        refused(call, maker, Busy.look(maker.get()), asked, want);
    }

    private void refused(String call, Supplier<SaysBath> maker, String look, ToLongFunction<SaysBath> asked, long want) {
        SaysBath bath = maker.get();
        due(call, asked.applyAsLong(bath), want);
        alike("behind " + call, Busy.look(bath), look);
    }

    void alike(String when, String got, String want) {
        held++;
        heldHere++;
        if (!got.equals(want)) {
            String[] here = got.split(" ");
            String[] there = want.split(" ");
            int at = 0;
            while (at < here.length - 1 && at < there.length - 1 && here[at].equals(there[at])) {
                at++;
            }
            complain(when + " there is " + here[at] + ", due is " + there[at]);
        }
    }

    /** Each argument in turn is one below its least, one above its most, and far off, the others at their bounds. */
    void outside(String name, long want, int[] least, int[] most, ToLongBiFunction<SaysBath, int[]> call) {
        outside(name, Busy::make, busyLook, want, least, most, call);
    }

    void outside(String name, Supplier<SaysBath> maker, String look, long want, int[] least, int[] most,
            ToLongBiFunction<SaysBath, int[]> call) {
        for (int argument = 0; argument < least.length; argument++) {
            int[] bad = {least[argument] - 1, most[argument] + 1, Integer.MIN_VALUE, Integer.MAX_VALUE};
            for (int value : bad) {
                for (int[] others : new int[][] {least, most}) {
                    int[] given = others.clone();
                    given[argument] = value;
                    String told = name + java.util.Arrays.toString(given);
                    refused(told, maker, look, bath -> call.applyAsLong(bath, given), want);
                }
            }
        }
    }

    /** Whether all answers were as due and no word of the terms and promises was left out. */
    boolean finish() {
        closeSentence();
        for (section = 0; section <= PROMISES; section++) {
            words = "";
            if (texts[section] == null) {
                complain("no such part of the document");
                continue;
            }
            Matcher word = Pattern.compile("\\w+").matcher(texts[section]);
            while (word.find()) {
                if (!spokenOf[section][word.start()]) {
                    complain("no test speaks of " + texts[section].substring(word.start()));
                    break;
                }
            }
        }
        System.out.println(sentences + " sentences, " + held + " answers looked at, " + wrong + " not as due");
        return wrong == 0;
    }
}
