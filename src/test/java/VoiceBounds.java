/** Terms IV and promises 19 to 28 at their bounds: what is HEARD, whom it FITS, what to ask next. */
final class VoiceBounds {
    private static final int NONE = -1;
    private static final int TERMS = Sentences.TERMS;
    private static final String VILLAGE = "village size 1;";
    private static final String ITEM = "item of 2 standard 0;";

    private final Sentences doc;

    private VoiceBounds(Sentences doc) {
        this.doc = doc;
    }

    static void all(Sentences doc) {
        VoiceBounds bounds = new VoiceBounds(doc);
        bounds.eightAtMost();
        bounds.fitting();
        bounds.asking();
        bounds.hear();
        bounds.hearRefused();
        bounds.hears();
        bounds.hearsRefused();
        bounds.mute();
        bounds.heard();
        bounds.fits();
        bounds.whole();
        bounds.from();
        bounds.next();
        bounds.two();
        bounds.nowhere();
    }

    private static SaysBath full() {
        return Texts.withLand(Busy.FULL);
    }

    /** Ten ITEMS of five variants, of which the first so many are HEARD, the odd ones to a clerk. */
    private static SaysBath hearing(int items) {
        SaysBath bath = Texts.withLand(Busy.WAITING);
        for (int item = 0; item < items; item++) {
            bath.hear(item, item % 5, item % 2 == 1);
        }
        return bath;
    }

    private void eightAtMost() {
        doc.sentence(TERMS, "IV. What is HEARD: ITEMS with a variant, eight at most.");
        SaysBath x = hearing(0);
        for (int item = 0; item < 8; item++) {
            doc.due("hear(" + item + ", 0, false)", x.hear(item, 0, false), item + 1);
        }
        doc.due("a ninth", x.hear(8, 0, false), -3);
        doc.due("HEARD", x.count(6), 8);
        doc.due("once nothing is", x.mute(), 8);
        doc.due("that one", x.hear(8, 0, false), 1);
    }

    private void fitting() {
        doc.sentence(TERMS, "A VILLAGE FITS one in a YEAR, if it says that variant, or if it was said to a clerk and is the "
                + "standard.");
        SaysBath x = Texts.withLand(VILLAGE + "item of 4 standard 1;law 0 0 to 3 if year same 0;");
        boolean[] answers = {false, true};
        int[][] due = {{1, 0, 0, 0}, {1, 1, 0, 0}};
        int[][] dueThen = {{0, 0, 0, 1}, {0, 1, 0, 1}};
        for (int variant = 0; variant < 4; variant++) {
            for (int clerk = 0; clerk < 2; clerk++) {
                x.hear(0, variant, answers[clerk]);
                doc.due("variant " + variant + ", clerk " + clerk, x.fits(0, 0), due[clerk][variant]);
                doc.due("variant " + variant + ", clerk " + clerk + ", YEAR 1", x.fits(0, 1), dueThen[clerk][variant]);
                doc.due("variant " + variant + ", clerk " + clerk + ", YEAR 60", x.fits(0, 60), dueThen[clerk][variant]);
            }
        }
    }

    /** Four VILLAGES; for the ITEMS at most 3, 2, 2 and 1 of them say one and the same variant. */
    private static SaysBath four() {
        return Texts.withLand(VILLAGE.repeat(4) + "item of 2 standard 0;item of 2 standard 0;item of 3 standard 0;"
                + "item of 4 standard 0;says 0 0 1;says 0 1 1;says 1 1 1;says 0 2 1;says 1 2 2;says 1 3 1;says 2 3 2;"
                + "says 3 3 3;");
    }

    private void asking() {
        doc.sentence(TERMS, "NEXT: of ITEMS that are not HEARD that by which of VILLAGES that FIT all (whole()) the greatest "
                + "number that say one and the same variant is least, of several the first;");
        SaysBath x = four();
        int[] due = {3, 1, 2, 0, NONE};
        for (int n = 0; n < due.length; n++) {
            doc.due("next(0) once " + n + " are HEARD", x.next(0), due[n]);
            if (due[n] != NONE) {
                x.hear(due[n], 0, true);
            }
        }
        x = four();
        x.hear(0, 0, false);
        doc.due("1, 2 and 3 are left", x.next(0), 3);
        x.hear(3, 0, true);
        doc.due("two of one kind, one of another", x.next(0), 1);
        x = Texts.withLand(VILLAGE.repeat(5) + ITEM.repeat(3) + "says 0 0 1;says 1 0 1;says 0 2 1;");
        x.hear(0, 1, false);
        doc.due("those that don't FIT are not counted", x.next(0), 2);

        doc.sentence(TERMS, "NONE, if all of these say one and the same for each such ITEM.");
        doc.due("all say the same", Texts.withLand(VILLAGE.repeat(3) + ITEM + ITEM).next(0), NONE);
        doc.due("one VILLAGE", Texts.withLand(VILLAGE + ITEM).next(0), NONE);
        doc.due("no VILLAGE", Texts.withLand(ITEM).next(0), NONE);
        doc.due("no ITEM", Texts.withLand(VILLAGE.repeat(3)).next(0), NONE);
        x = four();
        x.hear(3, 2, false);
        doc.due("one VILLAGE is left", x.next(0), NONE);
        x.hear(0, 1, false);
        doc.due("none is left", x.next(0), NONE);
        x = Texts.withLand(VILLAGE.repeat(3) + ITEM + ITEM + "says 0 0 1;says 0 1 1;");
        x.hear(0, 0, false);
        doc.due("those that are left say the same", x.next(0), NONE);
        x.hear(0, 0, true);
        doc.due("all are left", x.next(0), 1);
    }

    private void hear() {
        doc.sentence(19, "An ITEM is HEARD as a variant (in place of what it was), to a clerk or not: how many are HEARD.");
        SaysBath x = hearing(0);
        doc.due("hear(0, 0, false)", x.hear(0, 0, false), 1);
        doc.due("heard(0)", x.heard(0), 0);
        doc.due("hear(0, 4, true)", x.hear(0, 4, true), 1);
        doc.due("heard(0)", x.heard(0), 104);
        doc.due("hear(0, 4, false)", x.hear(0, 4, false), 1);
        doc.due("heard(0)", x.heard(0), 4);
        doc.due("hear(9, 4, true)", x.hear(9, 4, true), 2);
        doc.due("heard(9)", x.heard(9), 104);
        doc.due("heard(0)", x.heard(0), 4);
    }

    private void hearRefused() {
        doc.sentence(19, "-2: there are none such;");
        for (boolean clerk : new boolean[] {false, true}) {
            doc.outside("hear ITEM", -2, new int[] {0}, new int[] {1}, (b, a) -> b.hear(a[0], 0, clerk));
            doc.outside("hear ITEM 0 as", -2, new int[] {0}, new int[] {2}, (b, a) -> b.hear(0, a[0], clerk));
            doc.outside("hear ITEM 1 as", -2, new int[] {0}, new int[] {1}, (b, a) -> b.hear(1, a[0], clerk));
            doc.refused("hear(10, 0)", () -> hearing(7), b -> b.hear(10, 0, clerk), -2);
            doc.refused("hear(9, 5)", () -> hearing(7), b -> b.hear(9, 5, clerk), -2);
            doc.refused("hear(0, 5) of one that is HEARD", () -> hearing(8), b -> b.hear(0, 5, clerk), -2);
            doc.due("hear(0, 0) without a LAND", new SaysBath().hear(0, 0, clerk), -2);
        }

        doc.sentence(19, "-3: eight others are.");
        for (boolean clerk : new boolean[] {false, true}) {
            doc.due("the eighth", hearing(7).hear(9, 4, clerk), 8);
            doc.refused("hear(8, 0)", () -> hearing(8), b -> b.hear(8, 0, clerk), -3);
            doc.refused("hear(9, 4)", () -> hearing(8), b -> b.hear(9, 4, clerk), -3);
            SaysBath x = hearing(8);
            doc.due("the eighth in place of what it was", x.hear(7, 4, clerk), 8);
            doc.due("heard(7)", x.heard(7), clerk ? 104 : 4);
            doc.due("the first in place of what it was", x.hear(0, 3, clerk), 8);
            doc.due("heard(0)", x.heard(0), clerk ? 103 : 3);
        }
    }

    private static SaysBath withRow(SaysBath bath, int slot, int width, long... numbers) {
        bath.row(slot, width, numbers.length);
        for (int i = 0; i < numbers.length; i++) {
            bath.write(slot, i, numbers[i]);
        }
        return bath;
    }

    private void hears() {
        doc.sentence(20, "hear() (to no clerk) for each two numbers of a SLOT's row (ITEM, variant; one left over is not "
                + "looked at),");
        SaysBath x = withRow(hearing(8), 0, 0, 1, 3);
        doc.due("hears(0)", x.hears(0), 1);
        doc.due("to no clerk, in place of what it was", x.heard(1), 3);
        doc.due("HEARD", x.count(6), 8);
        for (int width = 0; width < 4; width++) {
            x = withRow(hearing(0), 3, width, 0, 0, 9, 4, 5);
            doc.due("two, one left over", x.hears(3), 2);
            doc.due("heard(0)", x.heard(0), 0);
            doc.due("heard(9)", x.heard(9), 4);
            doc.due("heard(5)", x.heard(5), NONE);
        }
        doc.due("a row of none", withRow(hearing(0), 1, 0).hears(1), 0);
        x = withRow(hearing(0), 1, 0, 2);
        doc.due("a row of one", x.hears(1), 0);
        doc.due("heard(2)", x.heard(2), NONE);
        x = withRow(hearing(0), 2, 0, 2, 4, 2, 1);
        doc.due("one ITEM twice", x.hears(2), 2);
        doc.due("the latter", x.heard(2), 1);
        long[] sixty = new long[60];
        for (int i = 0; i < 30; i++) {
            sixty[2 * i] = i % 8;
            sixty[2 * i + 1] = i == 29 ? 4 : i % 4;
        }
        x = withRow(hearing(0), 0, 3, sixty);
        doc.due("sixty numbers", x.hears(0), 30);
        doc.due("the last two of them", x.heard(5), 4);
    }

    private void hearsRefused() {
        doc.sentence(20, "those that it refuses left out: how many were not.");
        SaysBath x = withRow(hearing(0), 0, 1, 10, 0, -1, 0, 3, 5, 3, -1, 4, 2, 255, 0);
        doc.due("one of six", x.hears(0), 1);
        doc.due("HEARD", x.count(6), 1);
        doc.due("heard(4)", x.heard(4), 2);
        x = withRow(hearing(7), 0, 1, 8, 1, 9, 1, 6, 0);
        doc.due("the ninth is left out, what follows is not", x.hears(0), 2);
        doc.due("heard(8)", x.heard(8), 1);
        doc.due("heard(9)", x.heard(9), NONE);
        doc.due("heard(6)", x.heard(6), 0);
        long far = 1L << 32;
        x = withRow(hearing(0), 0, 3, far, 0, 0, far, far + 1, far + 1, Long.MIN_VALUE, 0, 0, Long.MAX_VALUE);
        doc.due("numbers beyond four bytes", x.hears(0), 0);
        doc.due("HEARD", x.count(6), 0);
        x = withRow(new SaysBath(), 0, 0, 0, 0);
        doc.due("no ITEMS", x.hears(0), 0);

        doc.sentence(20, "-2: there is no such SLOT;");
        doc.outside("hears", -2, new int[] {0}, new int[] {3}, (b, a) -> b.hears(a[0]));

        doc.sentence(20, "-6: it has nothing.");
        doc.refused("hears(2)", b -> b.hears(2), -6);
        for (int slot = 0; slot < 4; slot++) {
            doc.due("hears(" + slot + ") of a new object", new SaysBath().hears(slot), -6);
        }
    }

    private void mute() {
        doc.sentence(21, "Nothing is HEARD: how many were.");
        for (int n = 0; n <= 8; n++) {
            SaysBath x = hearing(n);
            doc.due("mute() of " + n, x.mute(), n);
            doc.due("HEARD", x.count(6), 0);
            doc.due("heard(0)", x.heard(0), NONE);
            doc.due("heard(7)", x.heard(7), NONE);
            doc.due("mute() once more", x.mute(), 0);
        }
        SaysBath x = Busy.make();
        doc.due("mute()", x.mute(), 2);
        x.hear(0, 1, true);
        x.hear(1, 1, false);
        doc.alike("as if nothing were, HEARD again", Busy.look(x), Busy.look(Busy.make()));
    }

    private void heard() {
        doc.sentence(22, "What an ITEM was HEARD as (100 more: to a clerk);");
        SaysBath x = hearing(0);
        for (int variant = 0; variant < 5; variant++) {
            x.hear(9, variant, false);
            doc.due("heard(9)", x.heard(9), variant);
            x.hear(9, variant, true);
            doc.due("heard(9) to a clerk", x.heard(9), 100 + variant);
        }

        doc.sentence(22, "NONE: it was not.");
        doc.due("heard(8)", hearing(8).heard(8), NONE);
        doc.due("heard(9)", hearing(8).heard(9), NONE);
        doc.due("heard(0)", hearing(0).heard(0), NONE);

        doc.sentence(22, "-2: there is none such.");
        doc.outside("heard", -2, new int[] {0}, new int[] {1}, (b, a) -> b.heard(a[0]));
        doc.due("heard(10) of ten", hearing(8).heard(10), -2);
        doc.due("heard(0) of none", new SaysBath().heard(0), -2);
    }

    private void fits() {
        doc.sentence(23, "How many ITEMS that are HEARD a VILLAGE FITS (IV) in a YEAR.");
        SaysBath x = full();
        doc.due("nothing is HEARD", x.fits(23, 0), 0);
        for (int n = 1; n <= 8; n++) {
            x.hear(10 - n, 1, false);
            doc.due("fits(23, 0)", x.fits(23, 0), n);
            doc.due("fits(23, 60)", x.fits(23, 60), n - 1);
            doc.due("fits(22, 0)", x.fits(22, 0), 0);
        }

        doc.sentence(23, "-2: there are none such.");
        doc.outside("fits", -2, new int[] {0, 0}, new int[] {2, 60}, (b, a) -> b.fits(a[0], a[1]));
        doc.due("fits(24, 0) of 24", full().fits(24, 0), -2);
        doc.due("fits(0, 0) of none", new SaysBath().fits(0, 0), -2);
    }

    private void whole() {
        doc.sentence(24, "VILLAGES that FIT all that is HEARD, as bits.");
        SaysBath x = full();
        doc.due("nothing is HEARD", x.whole(0), 0xffffff);
        x.hear(9, 1, false);
        doc.due("the 24th", x.whole(0), 1 << 23);
        doc.due("none in YEAR 60", x.whole(60), 0);
        x.hear(9, 0, false);
        doc.due("all others", x.whole(60), 0x7fffff);
        x.hear(0, 1, false);
        doc.due("one of two is not enough", x.whole(0), 0);
        doc.due("no VILLAGES", hearing(0).whole(0), 0);
        doc.due("no VILLAGES, eight HEARD", hearing(8).whole(60), 0);
        doc.due("the third", Busy.make().whole(60), 4);

        doc.sentence(24, "-2: there is no such YEAR.");
        doc.outside("whole", -2, new int[] {0}, new int[] {60}, (b, a) -> b.whole(a[0]));
    }

    private void from() {
        doc.sentence(25, "The VILLAGE that FITS most, the first of several;");
        SaysBath x = full();
        doc.due("nothing is HEARD", x.from(0), 0);
        x.hear(9, 1, false);
        doc.due("the 24th", x.from(0), 23);
        doc.due("none FITS", x.from(60), 0);
        x.hear(8, 0, false);
        doc.due("one of two each", x.from(0), 0);
        x.hear(7, 1, false);
        doc.due("two of three", x.from(0), 23);
        doc.due("from(0)", Busy.make().from(0), 2);

        doc.sentence(25, "NONE: there are none.");
        doc.due("no VILLAGES", hearing(8).from(0), NONE);
        doc.due("no LAND", new SaysBath().from(60), NONE);

        doc.sentence(25, "-2: there is no such YEAR.");
        doc.outside("from", -2, new int[] {0}, new int[] {60}, (b, a) -> b.from(a[0]));
        doc.due("without VILLAGES", new SaysBath().from(61), -2);
    }

    private void next() {
        doc.sentence(26, "The ITEM that is to be asked next (IV); NONE.");
        doc.due("the tenth", Texts.withLand(VILLAGE + VILLAGE + ITEM.repeat(10) + "says 0 9 1;").next(0), 9);
        SaysBath x = full();
        for (int item = 0; item < 8; item++) {
            doc.due("next(60)", x.next(60), item);
            x.hear(item, 4, true);
        }
        doc.due("next(60) once eight are HEARD", x.next(60), 8);
        x = Texts.withLand(VILLAGE + VILLAGE + ITEM + ITEM + "says 0 0 1;says 0 1 1;law 0 0 to 1 if year same 59;");
        doc.due("next(59)", x.next(59), 0);
        doc.due("next(60)", x.next(60), 1);
        x.hear(1, 0, true);
        doc.due("next(59)", x.next(59), 0);
        doc.due("next(60)", x.next(60), NONE);
        doc.due("no LAND", new SaysBath().next(0), NONE);

        doc.sentence(26, "-2: there is no such YEAR.");
        doc.outside("next", -2, new int[] {0}, new int[] {60}, (b, a) -> b.next(a[0]));
        doc.due("no LAND", new SaysBath().next(61), -2);
    }

    private void two() {
        doc.sentence(27, "Two VILLAGES v, w (v below w) of which most ITEMS that are HEARD FIT one or the other: 100 v + w, the "
                + "least of several;");
        doc.due("two VILLAGES, nothing HEARD", Texts.withLand(VILLAGE + VILLAGE).two(0), 1);
        SaysBath x = Texts.withLand(VILLAGE.repeat(24) + ITEM + ITEM + "says 22 0 1;says 23 1 1;");
        doc.due("nothing HEARD", x.two(0), 1);
        x.hear(0, 1, false);
        doc.due("one ITEM", x.two(0), 22);
        x.hear(1, 1, false);
        doc.due("the last two", x.two(0), 2223);
        x.hear(1, 0, false);
        doc.due("the second FITS both", x.two(60), 22);
        x = Texts.withLand(VILLAGE.repeat(12) + ITEM.repeat(3) + "says 2 0 1;says 10 1 1;says 11 2 1;");
        for (int item = 0; item < 3; item++) {
            x.hear(item, 1, false);
        }
        doc.due("the least of several", x.two(0), 210);

        doc.sentence(27, "NONE: there are not two.");
        doc.due("one", Texts.withLand(VILLAGE + ITEM).two(0), NONE);
        doc.due("none", hearing(8).two(60), NONE);

        doc.sentence(27, "-2: there is no such YEAR.");
        doc.outside("two", -2, new int[] {0}, new int[] {60}, (b, a) -> b.two(a[0]));
        doc.due("without VILLAGES", new SaysBath().two(-1), -2);
    }

    private void nowhere() {
        doc.sentence(28, "Pairs of ITEMS that are HEARD of which no VILLAGE FITS both (what 0: how many, 1: the first i, j as 100 "
                + "i + j, i below j;");
        SaysBath x = hearing(8);
        doc.due("no VILLAGES: all pairs of eight", x.nowhere(0, 0), 28);
        doc.due("the first", x.nowhere(60, 1), 1);
        x = hearing(0);
        x.hear(9, 0, true);
        x.hear(8, 0, false);
        doc.due("the last two", x.nowhere(0, 1), 809);
        doc.due("one pair", x.nowhere(0, 0), 1);
        x = full();
        x.hear(3, 1, false);
        x.hear(6, 0, false);
        x.hear(9, 1, false);
        doc.due("3 and 6, 6 and 9", x.nowhere(0, 0), 2);
        doc.due("3 and 6", x.nowhere(0, 1), 306);
        doc.due("all of them in YEAR 60", x.nowhere(60, 0), 3);
        x.hear(6, 4, true);
        doc.due("all FIT the standard", x.nowhere(0, 0), 0);
        doc.due("9 FITS none in YEAR 60", x.nowhere(60, 0), 2);
        doc.due("3 and 9", x.nowhere(60, 1), 309);

        doc.sentence(28, "NONE without).");
        doc.due("nothing is HEARD", full().nowhere(0, 1), NONE);
        doc.due("nothing is HEARD", full().nowhere(0, 0), 0);
        x = hearing(1);
        doc.due("one is HEARD", x.nowhere(0, 1), NONE);
        doc.due("one is HEARD", x.nowhere(0, 0), 0);
        doc.due("all go together", Busy.make().nowhere(60, 1), NONE);
        for (int v = 0; v < 3; v++) {
            x = Texts.withLand(VILLAGE.repeat(3) + ITEM + ITEM + "says " + v + " 0 1;says " + v + " 1 1;");
            x.hear(0, 1, false);
            x.hear(1, 1, false);
            doc.due("they go together in " + v, x.nowhere(0, 0), 0);
        }

        doc.sentence(28, "-2: there is no such YEAR, what.");
        doc.outside("nowhere", -2, new int[] {0, 0}, new int[] {60, 1}, (b, a) -> b.nowhere(a[0], a[1]));
        doc.due("without a LAND", new SaysBath().nowhere(0, 2), -2);
        doc.due("without a LAND", new SaysBath().nowhere(61, 0), -2);
    }
}
