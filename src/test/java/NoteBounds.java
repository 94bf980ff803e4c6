/** Terms V and promises 29 to 38 at their bounds: what is NOTED, ODDS, who walked, ASKERS who LEAN. */
final class NoteBounds {
    private static final int NONE = -1;
    private static final int TERMS = Sentences.TERMS;
    private static final String VILLAGE = "village size 1;";
    private static final String ITEM = "item of 2 standard 0;";

    private final Sentences doc;

    private NoteBounds(Sentences doc) {
        this.doc = doc;
    }

    static void all(Sentences doc) {
        NoteBounds bounds = new NoteBounds(doc);
        bounds.oddsOf();
        bounds.leansIf();
        bounds.leansUnless();
        bounds.note();
        bounds.noteRefused();
        bounds.noted();
        bounds.mostly();
        bounds.off();
        bounds.odds();
        bounds.likely();
        bounds.ahead();
        bounds.walk();
        bounds.leans();
        bounds.lean();
    }

    private static SaysBath full() {
        return Texts.withLand(Busy.FULL);
    }

    private void oddsAre(SaysBath x, int v, long upper, long lower) {
        doc.due("odds(" + v + ", false)", x.odds(v, false), upper);
        doc.due("odds(" + v + ", true)", x.odds(v, true), lower);
    }

    private void oddsOf() {
        doc.sentence(TERMS, "V. ODDS: the product, over ITEMS that are HEARD, of (answers NOTED of that VILLAGE as that variant and "
                + "1) by (all NOTED there for that ITEM and of), without a common part;");
        SaysBath x = Texts.withLand(VILLAGE + VILLAGE + "item of 5 standard 0;".repeat(8) + ITEM);
        x.hear(0, 4, false);
        oddsAre(x, 0, 1, 5);
        x.note(0, 0, 4, 9);
        oddsAre(x, 0, 5, 7);
        oddsAre(x, 1, 1, 5);
        x.note(0, 0, 0, 1);
        oddsAre(x, 0, 2, 3);
        x.note(0, 8, 0, 9);
        oddsAre(x, 0, 2, 3);
        x.hear(8, 1, false);
        oddsAre(x, 0, 2, 33);
        x.hear(8, 0, false);
        oddsAre(x, 0, 20, 33);
        x = Texts.withLand(VILLAGE + VILLAGE + "item of 5 standard 0;".repeat(8));
        for (int item = 0; item < 8; item++) {
            x.hear(item, 0, false);
            for (int variant = 1; variant < 5; variant++) {
                x.note(0, item, variant, 9);
            }
        }
        oddsAre(x, 0, 1, 7984925229121L);
        for (int item = 0; item < 8; item++) {
            x.note(0, item, 0, 9);
        }
        oddsAre(x, 0, 1, 390625);
        oddsAre(x, 1, 1, 390625);
        x.note(0, 7, 0, 1);
        oddsAre(x, 0, 1, 390625);

        doc.sentence(TERMS, "1 by 1 if nothing is HEARD.");
        x = Busy.make();
        x.mute();
        for (int v = 0; v < 3; v++) {
            oddsAre(x, v, 1, 1);
        }
        oddsAre(full(), 23, 1, 1);
        doc.due("no ITEMS", Texts.withLand(VILLAGE).odds(0, true), 1);

        doc.sentence(TERMS, "(To a clerk: likewise.)");
        for (int variant = 0; variant < 3; variant++) {
            for (boolean clerk : new boolean[] {false, true}) {
                x = Busy.make();
                x.mute();
                x.hear(0, variant, clerk);
                // VILLAGE 0 has nine answers as 2, VILLAGE 1 three as 0; the standard is 1.
                oddsAre(x, 0, variant == 2 ? 5 : 1, variant == 2 ? 6 : 12);
                oddsAre(x, 1, variant == 0 ? 2 : 1, variant == 0 ? 3 : 6);
                oddsAre(x, 2, 1, 3);
            }
        }
    }

    /** A chain of VILLAGES with who walked each and what it mostly says; NONE: nobody, nothing. */
    private static SaysBath chain(int[] walked, int[] said) {
        StringBuilder text = new StringBuilder(VILLAGE.repeat(walked.length));
        for (int v = 0; v + 1 < walked.length; v++) {
            text.append("road ").append(v).append(' ').append(v + 1).append(';');
        }
        SaysBath bath = Texts.withLand(text + "item of 2 standard 0;item of 3 standard 0;");
        for (int v = 0; v < walked.length; v++) {
            bath.walk(v, walked[v]);
            if (said[v] != NONE) {
                bath.note(v, 1, said[v], 2);
            }
        }
        return bath;
    }

    private void leaning(int want, int[] walked, int[] said) {
        String told = java.util.Arrays.toString(walked) + java.util.Arrays.toString(said);
        doc.due("leans(0, 1) of " + told, chain(walked, said).leans(0, 1), want);
    }

    private void leansIf() {
        doc.sentence(TERMS, "ASKER a LEANS in an ITEM, if there is a ROAD from a VILLAGE that a walked to one that another ASKER "
                + "walked, both with answers NOTED for it,");
        leaning(1, new int[] {0, 1}, new int[] {1, 2});
        leaning(1, new int[] {5, 0}, new int[] {1, 2});
        leaning(0, new int[] {0, NONE, 1}, new int[] {1, NONE, 2});
        leaning(0, new int[] {0, NONE}, new int[] {1, 2});
        leaning(0, new int[] {NONE, 1}, new int[] {1, 2});
        leaning(0, new int[] {NONE, NONE}, new int[] {1, 2});
        leaning(0, new int[] {0, 0}, new int[] {1, 2});
        leaning(0, new int[] {1, 2}, new int[] {1, 2});
        leaning(0, new int[] {0, 1}, new int[] {1, NONE});
        leaning(0, new int[] {0, 1}, new int[] {NONE, 2});
        leaning(0, new int[] {0, 1}, new int[] {NONE, NONE});
        SaysBath x = chain(new int[] {0, 1}, new int[] {1, 2});
        doc.due("another ITEM", x.leans(0, 0), 0);
        x = Texts.withLand(VILLAGE + VILLAGE + ITEM);
        x.walk(0, 0);
        x.walk(1, 1);
        x.note(0, 0, 0, 1);
        x.note(1, 0, 1, 1);
        doc.due("no ROAD", x.leans(0, 0), 0);

        doc.sentence(TERMS, "all such ROADS lead between such as mostly() say otherwise,");
        leaning(0, new int[] {0, 1}, new int[] {1, 1});
        leaning(1, new int[] {1, 0, 1}, new int[] {2, 1, 2});
        leaning(1, new int[] {1, 0, 2}, new int[] {2, 1, 0});
        leaning(0, new int[] {1, 0, 1}, new int[] {2, 1, 1});
        leaning(0, new int[] {1, 0, 2}, new int[] {1, 1, 2});
        leaning(1, new int[] {1, 0, 2}, new int[] {2, 1, NONE});
        leaning(1, new int[] {1, 0, NONE}, new int[] {2, 1, 1});
        x = chain(new int[] {0, 1}, new int[] {1, 2});
        x.note(1, 1, 1, 1);
        doc.due("it says 2 still", x.leans(0, 1), 1);
        x.note(1, 1, 1, 1);
        doc.due("the least of two, as the other one", x.leans(0, 1), 0);
    }

    private void leansUnless() {
        doc.sentence(TERMS, "and no ROAD between two that a walked, or two that others walked (any of them), both NOTED, does.");
        leaning(1, new int[] {1, 0, 0}, new int[] {2, 1, 1});
        leaning(0, new int[] {1, 0, 0}, new int[] {2, 1, 0});
        leaning(1, new int[] {1, 0, 0}, new int[] {2, 1, NONE});
        leaning(1, new int[] {1, 0, NONE}, new int[] {2, 1, 0});
        leaning(1, new int[] {0, 1, 1}, new int[] {2, 1, 1});
        leaning(0, new int[] {0, 1, 1}, new int[] {2, 1, 0});
        leaning(1, new int[] {0, 1, 1}, new int[] {2, 1, NONE});
        leaning(1, new int[] {0, 1, 5}, new int[] {2, 1, 1});
        leaning(0, new int[] {0, 1, 5}, new int[] {2, 1, 0});
        leaning(0, new int[] {5, 1, 0}, new int[] {2, 1, 0});
        leaning(1, new int[] {0, 1, NONE}, new int[] {2, 1, 0});
        leaning(0, new int[] {0, 1, NONE, 2, 3}, new int[] {2, 1, 0, 0, 1});
        leaning(1, new int[] {0, 1, NONE, 2, 3}, new int[] {2, 1, 0, 0, 0});
    }

    private void note() {
        doc.sentence(29, "n (1 .. 9) more answers are NOTED of a VILLAGE for an ITEM as a variant: how many there are then.");
        SaysBath x = full();
        for (int n = 1; n <= 9; n++) {
            doc.due("note(23, 9, 4, 1)", x.note(23, 9, 4, 1), n);
            doc.due("note(" + n + ", 0, 0, " + n + ")", x.note(n, 0, 0, n), n);
            doc.due("noted(" + n + ", 0, 0)", x.noted(n, 0, 0), n);
        }
        doc.due("NOTED", x.count(7), 54);
        doc.due("noted(23, 9, 4)", x.noted(23, 9, 4), 9);
        doc.due("another variant", x.note(23, 9, 3, 9), 9);
        doc.due("another ITEM", x.note(23, 8, 4, 9), 9);
        doc.due("another VILLAGE", x.note(22, 9, 4, 9), 9);
        doc.due("NOTED", x.count(7), 81);
    }

    private void noteRefused() {
        doc.sentence(29, "-2: there are none such;");
        doc.outside("note of VILLAGE", -2, new int[] {0}, new int[] {2}, (b, a) -> b.note(a[0], 1, 0, 1));
        doc.outside("note for ITEM", -2, new int[] {0}, new int[] {1}, (b, a) -> b.note(1, a[0], 1, 1));
        doc.outside("note for ITEM 0 as", -2, new int[] {0}, new int[] {2}, (b, a) -> b.note(1, 0, a[0], 1));
        doc.outside("note for ITEM 1 as", -2, new int[] {0}, new int[] {1}, (b, a) -> b.note(1, 1, a[0], 1));
        doc.outside("note of n", -2, new int[] {1}, new int[] {9}, (b, a) -> b.note(1, 1, 0, a[0]));
        SaysBath x = full();
        doc.due("note(24, 9, 4, 1)", x.note(24, 9, 4, 1), -2);
        doc.due("note(23, 10, 4, 1)", x.note(23, 10, 4, 1), -2);
        doc.due("note(23, 9, 5, 1)", x.note(23, 9, 5, 1), -2);
        doc.due("note(23, 9, 4, 10)", x.note(23, 9, 4, 10), -2);
        doc.due("note(23, 9, 4, 0)", x.note(23, 9, 4, 0), -2);
        doc.due("NOTED", x.count(7), 0);
        doc.due("without a LAND", new SaysBath().note(0, 0, 0, 1), -2);

        doc.sentence(29, "-3, and none come: there would be more than 9.");
        for (int n = 1; n <= 9; n++) {
            int more = n;
            doc.refused("note(0, 0, 2, " + n + ") behind nine", b -> b.note(0, 0, 2, more), -3);
            if (n > 6) {
                doc.refused("note(1, 0, 0, " + n + ") behind three", b -> b.note(1, 0, 0, more), -3);
            } else {
                doc.due("note(1, 0, 0, " + n + ") behind three", Busy.make().note(1, 0, 0, more), 3 + n);
            }
        }
        x = Busy.make();
        doc.due("one too many", x.note(1, 0, 0, 7), -3);
        doc.due("none came", x.note(1, 0, 0, 6), 9);
        doc.due("NOTED", x.count(7), 19);
    }

    private void noted() {
        doc.sentence(30, "How many answers are NOTED.");
        SaysBath x = Busy.make();
        doc.due("noted(0, 0, 0)", x.noted(0, 0, 0), 0);
        doc.due("noted(0, 0, 2)", x.noted(0, 0, 2), 9);
        doc.due("noted(1, 0, 0)", x.noted(1, 0, 0), 3);
        doc.due("noted(2, 1, 1)", x.noted(2, 1, 1), 1);
        doc.due("noted(23, 9, 4)", full().noted(23, 9, 4), 0);

        doc.sentence(30, "NONE for others.");
        doc.outside("noted of VILLAGE", NONE, new int[] {0}, new int[] {2}, (b, a) -> b.noted(a[0], 1, 0));
        doc.outside("noted for ITEM", NONE, new int[] {0}, new int[] {1}, (b, a) -> b.noted(0, a[0], 0));
        doc.outside("noted for ITEM 0 as", NONE, new int[] {0}, new int[] {2}, (b, a) -> b.noted(0, 0, a[0]));
        doc.outside("noted for ITEM 1 as", NONE, new int[] {0}, new int[] {1}, (b, a) -> b.noted(2, 1, a[0]));
        doc.due("noted(24, 9, 4)", full().noted(24, 9, 4), NONE);
        doc.due("noted(23, 10, 4)", full().noted(23, 10, 4), NONE);
        doc.due("noted(23, 9, 5)", full().noted(23, 9, 5), NONE);
    }

    private void mostly() {
        doc.sentence(31, "What a VILLAGE mostly says for an ITEM by what is NOTED: of several the least;");
        SaysBath x = full();
        x.note(23, 9, 4, 1);
        doc.due("one answer", x.mostly(23, 9), 4);
        x.note(23, 9, 1, 1);
        doc.due("one each", x.mostly(23, 9), 1);
        x.note(23, 9, 4, 1);
        doc.due("two to one", x.mostly(23, 9), 4);
        x.note(23, 9, 0, 2);
        doc.due("two each", x.mostly(23, 9), 0);
        x.note(23, 9, 2, 9);
        doc.due("nine", x.mostly(23, 9), 2);
        x.note(23, 9, 3, 9);
        doc.due("nine each", x.mostly(23, 9), 2);
        doc.due("as it is NOTED, not as the map has it", Busy.make().mostly(1, 0), 0);

        doc.sentence(31, "NONE: nothing is NOTED.");
        doc.due("another VILLAGE", x.mostly(22, 9), NONE);
        doc.due("another ITEM", x.mostly(23, 8), NONE);
        doc.due("mostly(2, 0)", Busy.make().mostly(2, 0), NONE);

        doc.sentence(31, "-2: there are none such.");
        doc.outside("mostly", -2, new int[] {0, 0}, new int[] {2, 1}, (b, a) -> b.mostly(a[0], a[1]));
        doc.due("mostly(24, 9)", full().mostly(24, 9), -2);
        doc.due("mostly(23, 10)", full().mostly(23, 10), -2);
    }

    private void off() {
        doc.sentence(32, "VILLAGES that mostly say otherwise than the map of a YEAR has, as bits.");
        SaysBath x = full();
        doc.due("nothing is NOTED", x.off(9, 0), 0);
        x.note(23, 9, 2, 1);
        doc.due("the 24th in YEAR 0", x.off(9, 0), 1 << 23);
        doc.due("not in YEAR 1", x.off(9, 1), 0);
        doc.due("not in YEAR 60", x.off(9, 60), 0);
        doc.due("not for another ITEM", x.off(8, 0), 0);
        for (int v = 0; v < 23; v++) {
            x.note(v, 9, 4, 1);
        }
        doc.due("all others in YEAR 60", x.off(9, 60), 0x7fffff);
        doc.due("all in YEAR 0", x.off(9, 0), 0xffffff);
        x = Busy.make();
        doc.due("off(0, 0)", x.off(0, 0), 0);
        doc.due("off(0, 1)", x.off(0, 1), 2);
        doc.due("off(1, 60)", x.off(1, 60), 0);

        doc.sentence(32, "-2: there are none such.");
        doc.outside("off", -2, new int[] {0, 0}, new int[] {1, 60}, (b, a) -> b.off(a[0], a[1]));
        doc.due("off(10, 0) of ten", full().off(10, 0), -2);
    }

    private void odds() {
        doc.sentence(33, "ODDS of a VILLAGE for what is HEARD (V), upper number (below false), lower.");
        SaysBath x = Busy.make();
        oddsAre(x, 0, 1, 24);
        oddsAre(x, 1, 1, 12);
        oddsAre(x, 2, 2, 9);
        x = full();
        x.hear(9, 4, true);
        x.note(23, 9, 4, 9);
        oddsAre(x, 23, 5, 7);
        oddsAre(x, 0, 1, 5);

        doc.sentence(33, "NONE: there is none such.");
        for (boolean below : new boolean[] {false, true}) {
            doc.outside("odds", NONE, new int[] {0}, new int[] {2}, (b, a) -> b.odds(a[0], below));
            doc.due("odds(24) of 24", full().odds(24, below), NONE);
            doc.due("odds(0) of none", new SaysBath().odds(0, below), NONE);
        }
    }

    private void likely() {
        doc.sentence(34, "The VILLAGE with the greatest ODDS, the first of several;");
        SaysBath x = full();
        doc.due("nothing is HEARD", x.likely(), 0);
        x.hear(9, 2, false);
        doc.due("nothing is NOTED", x.likely(), 0);
        x.note(23, 9, 2, 1);
        doc.due("the 24th", x.likely(), 23);
        x.note(7, 9, 2, 1);
        doc.due("the first of two", x.likely(), 7);
        x.note(23, 9, 2, 1);
        doc.due("3 by 7 is above 2 by 6", x.likely(), 23);
        doc.due("likely()", Busy.make().likely(), 2);

        doc.sentence(34, "NONE: there are none.");
        doc.due("no LAND", new SaysBath().likely(), NONE);
        doc.due("no VILLAGES", Texts.withLand(Busy.WAITING).likely(), NONE);
    }

    /** VILLAGE v has v % 10 answers as variant 0, some as 1; each is held against each by their products across. */
    private void compareOdds(int first, int step) {
        SaysBath x = Texts.withLand(VILLAGE.repeat(24) + ITEM);
        x.hear(0, 0, false);
        int[] upper = new int[24];
        int[] lower = new int[24];
        for (int v = 0; v < 24; v++) {
            int said = v % 10;
            int other = (first + step * v) % 10;
            x.note(v, 0, 0, said);
            x.note(v, 0, 1, other);
            upper[v] = said + 1;
            lower[v] = said + other + 2;
        }
        int best = 0;
        for (int v = 0; v < 24; v++) {
            int greater = 0;
            for (int w = 0; w < 24; w++) {
                greater += upper[w] * lower[v] > upper[v] * lower[w] ? 1 : 0;
            }
            doc.due("ahead(" + v + ") from " + first + " by " + step, x.ahead(v), greater);
            best = upper[v] * lower[best] > upper[best] * lower[v] ? v : best;
        }
        doc.due("likely() from " + first + " by " + step, x.likely(), best);
    }

    private void ahead() {
        doc.sentence(35, "How many VILLAGES have greater ODDS than v.");
        SaysBath x = full();
        doc.due("nothing is HEARD", x.ahead(23), 0);
        x.hear(9, 2, false);
        doc.due("all alike", x.ahead(0), 0);
        x.note(23, 9, 1, 1);
        doc.due("1 by 6 is below all others", x.ahead(23), 23);
        doc.due("the others", x.ahead(0), 0);
        x.note(0, 9, 2, 9);
        doc.due("all but one", x.ahead(1), 1);
        doc.due("the greatest", x.ahead(0), 0);
        int[] due = {2, 1, 0};
        for (int v = 0; v < 3; v++) {
            doc.due("ahead(" + v + ")", Busy.make().ahead(v), due[v]);
        }
        for (int first = 0; first < 10; first++) {
            compareOdds(first, 7);
            compareOdds(first, 3);
        }
        // The products across are beyond eight bytes: 10 by 50 to the eighth against 9 by 49.
        x = Texts.withLand(VILLAGE + VILLAGE + "item of 5 standard 0;".repeat(8));
        for (int item = 0; item < 8; item++) {
            x.hear(item, 0, false);
            x.note(0, item, 0, 8);
            x.note(1, item, 0, 9);
            for (int variant = 1; variant < 5; variant++) {
                x.note(0, item, variant, 9);
                x.note(1, item, variant, 9);
            }
        }
        doc.due("9 by 49", x.ahead(0), 1);
        doc.due("10 by 50", x.ahead(1), 0);

        doc.sentence(35, "-2: there is none such.");
        doc.outside("ahead", -2, new int[] {0}, new int[] {2}, (b, a) -> b.ahead(a[0]));
        doc.due("ahead(24) of 24", full().ahead(24), -2);
        doc.due("ahead(0) of none", new SaysBath().ahead(0), -2);
    }

    private void walk() {
        doc.sentence(36, "VILLAGE v was walked by ASKER a (0 .. 5; NONE: by nobody): by whom it was.");
        SaysBath x = full();
        int before = NONE;
        for (int asker : new int[] {0, 1, 5, NONE, 5, 5, 0}) {
            doc.due("walk(23, " + asker + ")", x.walk(23, asker), before);
            doc.due("village(23, 2)", x.village(23, 2), asker);
            before = asker;
        }
        doc.due("another VILLAGE", x.walk(0, 3), NONE);

        doc.sentence(36, "-2: there are none such.");
        doc.outside("walk", -2, new int[] {0, NONE}, new int[] {2, 5}, (b, a) -> b.walk(a[0], a[1]));
        doc.due("walk(24, 0) of 24", full().walk(24, 0), -2);
        doc.due("walk(0, 0) of none", new SaysBath().walk(0, 0), -2);
    }

    private void leans() {
        doc.sentence(37, "Whether ASKER a LEANS (V) in an ITEM: 1, 0.");
        SaysBath x = full();
        x.walk(22, 5);
        x.walk(23, 0);
        doc.due("nothing is NOTED", x.leans(5, 9), 0);
        x.note(22, 9, 4, 1);
        x.note(23, 9, 0, 1);
        doc.due("leans(5, 9)", x.leans(5, 9), 1);
        doc.due("leans(0, 9)", x.leans(0, 9), 1);
        doc.due("leans(1, 9): walked none", x.leans(1, 9), 0);
        doc.due("leans(5, 8)", x.leans(5, 8), 0);
        doc.due("leans(0, 0)", Busy.make().leans(0, 0), 1);
        doc.due("leans(5, 0)", Busy.make().leans(5, 0), 1);
        doc.due("leans(5, 1)", Busy.make().leans(5, 1), 0);

        doc.sentence(37, "-2: there are none such.");
        doc.outside("leans", -2, new int[] {0, 0}, new int[] {5, 1}, (b, a) -> b.leans(a[0], a[1]));
        doc.due("leans(0, 10) of ten", full().leans(0, 10), -2);
        doc.due("leans(0, 0) of none", new SaysBath().leans(0, 0), -2);
    }

    private void lean() {
        doc.sentence(38, "The variant with which LEANS; the one that most VILLAGES walked by a mostly say, of several the least;");
        doc.due("one VILLAGE", chain(new int[] {0, 1}, new int[] {2, 1}).lean(0, 1), 2);
        doc.due("the other ASKER", chain(new int[] {0, 1}, new int[] {2, 1}).lean(1, 1), 1);
        doc.due("one each", chain(new int[] {0, 1, 0}, new int[] {2, 1, 0}).lean(0, 1), 0);
        doc.due("two to one", chain(new int[] {0, 1, 0, NONE, 0}, new int[] {2, 1, 0, NONE, 2}).lean(0, 1), 2);
        doc.due("another's don't count", chain(new int[] {0, 1, 0, NONE, 2}, new int[] {2, 1, 0, NONE, 2}).lean(0, 1), 0);
        doc.due("those not NOTED don't", chain(new int[] {0, 1, NONE, 0, 0}, new int[] {2, 1, 0, NONE, NONE}).lean(0, 1), 2);
        SaysBath x = chain(new int[] {0, 1, 0}, new int[] {2, 1, 0});
        x.note(0, 1, 2, 7);
        doc.due("VILLAGES count, not answers", x.lean(0, 1), 0);
        x = full();
        x.walk(22, 5);
        x.walk(23, 0);
        x.note(22, 9, 4, 1);
        x.note(23, 9, 0, 1);
        doc.due("the last ITEM's last variant", x.lean(5, 9), 4);
        doc.due("once more", x.lean(5, 9), 4);
        doc.due("the other ASKER", x.lean(0, 9), 0);

        doc.sentence(38, "NONE: a does not LEAN there.");
        doc.due("the same", chain(new int[] {0, 1}, new int[] {2, 2}).lean(0, 1), NONE);
        doc.due("another ASKER", chain(new int[] {0, 1}, new int[] {2, 1}).lean(2, 1), NONE);
        doc.due("another ITEM", chain(new int[] {0, 1}, new int[] {2, 1}).lean(0, 0), NONE);
        doc.due("lean(5, 9)", full().lean(5, 9), NONE);

        doc.sentence(38, "-2 likewise.");
        doc.outside("lean", -2, new int[] {0, 0}, new int[] {5, 1}, (b, a) -> b.lean(a[0], a[1]));
        doc.due("lean(0, 10) of ten", full().lean(0, 10), -2);
        doc.due("lean(0, 0) of none", new SaysBath().lean(0, 0), -2);
    }
}
