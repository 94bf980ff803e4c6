/** Terms II and III and promises 6 to 18 at their bounds: the map, LINES, AREAS, rivers, telling apart. */
final class MapBounds {
    private static final int NONE = -1;
    private static final int TERMS = Sentences.TERMS;
    private static final String VILLAGE = "village size 1;";
    private static final String ITEM = "item of 2 standard 0;";
    /** One VILLAGE, one ITEM. */
    private static final String ONE = VILLAGE + ITEM;
    /** It says 0 in even YEARS, by LAW 1, and 1 in odd ones, by LAW 0. */
    private static final String SWINGING = ONE + "law 0 0 to 1 if 1 more 0;law 0 1 to 0 if 1 more 0;";
    private static final String MILLIARD = "500 times 500 times 500 times 8";

    private final Sentences doc;
    private final String fullLook = Busy.look(full());

    private MapBounds(Sentences doc) {
        this.doc = doc;
    }

    static void all(Sentences doc) {
        MapBounds bounds = new MapBounds(doc);
        bounds.years();
        bounds.turning();
        bounds.neighbours();
        bounds.signs();
        bounds.beyond();
        bounds.linesAndAreas();
        bounds.says();
        bounds.turned();
        bounds.lines();
        bounds.bundle();
        bounds.thick();
        bounds.crossed();
        bounds.areas();
        bounds.area();
        bounds.moved();
        bounds.still();
        bounds.river();
        bounds.riverBounds();
        bounds.tells();
        bounds.alone();
    }

    private static SaysBath full() {
        return Texts.withLand(Busy.FULL);
    }

    /** Two VILLAGES with a ROAD that is a LINE of the first so many of ten ITEMS. */
    private static SaysBath differing(int items) {
        StringBuilder text = new StringBuilder(VILLAGE + VILLAGE + "road 0 1;" + ITEM.repeat(10));
        for (int item = 0; item < items; item++) {
            text.append("says 1 ").append(item).append(" 1;");
        }
        return Texts.withLand(text.toString());
    }

    /** Whether a LAW HOLDS for VILLAGE 0, of size 7; two ROADS lead to 1 and one to 2, which say 1. */
    private void holds(String condition, boolean want) {
        SaysBath x = Texts.withLand("village size 7;village size 20;village size 30;village size 40;road 0 1;road 1 0;"
                + "road 2 0;road 2 3;item of 3 standard 0;item of 2 standard 0;says 1 0 1;says 2 0 1;says 3 0 2;"
                + "says 1 1 1;law 0 0 to 2 if " + condition + ";");
        doc.due("turned() if " + condition, x.turned(0, 0, 0), want ? 0 : NONE);
        doc.due("says() if " + condition, x.says(0, 0, 1), want ? 2 : 0);
    }

    private void years() {
        doc.sentence(TERMS, "II. THE MAP: YEARS 0 .. 60.");
        SaysBath x = Texts.withLand(SWINGING);
        for (int year = 0; year <= 60; year++) {
            doc.due("YEAR " + year, x.says(0, 0, year), year % 2);
        }
        doc.due("YEAR -1", x.says(0, 0, -1), NONE);
        doc.due("YEAR 61", x.says(0, 0, 61), NONE);
        x = Texts.withLand(SWINGING);
        doc.due("YEAR 60 ahead of all others", x.says(0, 0, 60), 0);
        doc.due("YEAR 59 behind it", x.says(0, 0, 59), 1);

        doc.sentence(TERMS, "In YEAR 0 a VILLAGE says for an ITEM what \"says\" told, else variant 0.");
        x = Texts.withLand(VILLAGE + VILLAGE + VILLAGE + "item of 5 standard 3;item of 5 standard 4;says 0 0 4;says 1 0 0;"
                + "says 2 1 1;");
        int[][] due = {{4, 0, 0}, {0, 0, 1}};
        for (int v = 0; v < 3; v++) {
            for (int item = 0; item < 2; item++) {
                doc.due("says(" + v + ", " + item + ", 0)", x.says(v, item, 0), due[item][v]);
                doc.due("says(" + v + ", " + item + ", 60)", x.says(v, item, 60), due[item][v]);
            }
        }
    }

    private void turning() {
        doc.sentence(TERMS, "From a YEAR to the next all turn at once:");
        SaysBath x = Texts.withLand(VILLAGE + VILLAGE + "road 0 1;" + ITEM + "says 0 0 1;"
                + "law 0 0 to 1 if near 1 more 0;law 0 1 to 0 if near 0 more 0;");
        for (int year = 0; year <= 60; year++) {
            doc.due("the first in YEAR " + year, x.says(0, 0, year), 1 - year % 2);
            doc.due("the second in YEAR " + year, x.says(1, 0, year), year % 2);
        }

        doc.sentence(TERMS, "a VILLAGE that says the first A of a LAW of that ITEM turns to the second, by the first such "
                + "LAW that HOLDS.");
        x = Texts.withLand(VILLAGE + "item of 4 standard 0;item of 4 standard 0;law 1 0 to 3 if 1 more 0;"
                + "law 0 1 to 3 if 1 more 0;law 0 0 to 3 if 1 more 1;law 0 0 to 1 if 1 more 0;law 0 0 to 2 if 1 more 0;");
        doc.due("LAWS of another ITEM, of another A, that don't HOLD", x.turned(0, 0, 0), 3);
        doc.due("its second A", x.says(0, 0, 1), 1);
        doc.due("the next YEAR's", x.turned(0, 0, 1), 1);
        doc.due("its second A", x.says(0, 0, 2), 3);
        doc.due("no LAW is of that A", x.turned(0, 0, 2), NONE);
        doc.due("the other ITEM's", x.turned(0, 1, 0), 0);

        doc.sentence(TERMS, "LAW: its SUMS, worked out of the YEAR ahead:");
        x = Texts.withLand(Busy.LAND);
        int[] bits = {1, 3, 7, 7};
        for (int year = 0; year < bits.length; year++) {
            for (int v = 0; v < 3; v++) {
                doc.due("says(" + v + ", 0, " + year + ")", x.says(v, 0, year), (bits[year] >> v & 1) * 2);
            }
        }
    }

    private void neighbours() {
        doc.sentence(TERMS, "near A: ROADS from the VILLAGE to such as say A (of that ITEM; two ROADS to one count twice);");
        holds("near 1 same 3", true);
        holds("near 1 same 2", false);
        holds("near 0 plus near 2 same 0", true);
        SaysBath x = Texts.withLand(VILLAGE + VILLAGE + ITEM + "says 1 0 1;law 0 0 to 1 if near 1 same 40;"
                + "law 0 1 to 0 if near 1 same 0;" + "road 0 1;".repeat(20) + "road 1 0;".repeat(20));
        doc.due("forty ROADS", x.turned(0, 0, 0), 0);
        doc.due("none to such", x.turned(1, 0, 0), 1);
        x = Texts.withLand(VILLAGE + VILLAGE + ITEM + "road 1 0;law 0 0 to 1 if year times near 0 same 5;");
        doc.due("each YEAR anew, of the first", x.turned(0, 0, 5), 0);
        doc.due("each YEAR anew, of the second", x.turned(1, 0, 5), 0);
        x = Texts.withLand(ONE + "law 0 0 to 1 if near 0 same 0;");
        doc.due("a VILLAGE without ROADS", x.turned(0, 0, 0), 0);

        doc.sentence(TERMS, "mass A: the sizes of the VILLAGES at those, each once, together;");
        holds("mass 1 same 50", true);
        holds("mass 1 same 70", false);
        holds("mass 0 plus mass 2 same 0", true);
        x = Texts.withLand(VILLAGE + "village size 99;" + ITEM + "law 0 0 to 1 if mass 0 same 99;"
                + "road 0 1;".repeat(20) + "road 1 0;".repeat(20));
        doc.due("forty ROADS to one", x.turned(0, 0, 0), 0);
        doc.due("to one of another size", x.turned(1, 0, 0), NONE);
        StringBuilder text = new StringBuilder(VILLAGE + "village size 99;".repeat(23) + ITEM);
        for (int v = 1; v < 24; v++) {
            text.append("road 0 ").append(v).append(';');
        }
        x = Texts.withLand(text + "law 0 0 to 1 if mass 0 same 999 plus 999 plus 279;");
        doc.due("23 VILLAGES of size 99", x.turned(0, 0, 0), 0);

        doc.sentence(TERMS, "size: its own;");
        holds("size same 7", true);
        x = Texts.withLand("village size 99;village size 1;road 0 1;" + ITEM
                + "law 0 0 to 1 if size same 99;law 0 0 to 1 if size same 1;");
        doc.due("size 99", x.turned(0, 0, 0), 0);
        doc.due("size 1", x.turned(1, 0, 0), 1);

        doc.sentence(TERMS, "year: that YEAR.");
        for (int year : new int[] {0, 1, 58, 59}) {
            x = Texts.withLand(ONE + "law 0 0 to 1 if year same " + year + ";");
            doc.due("turned from YEAR " + year, x.turned(0, 0, year), 0);
            doc.due("in that YEAR", x.says(0, 0, year), 0);
            doc.due("in the next", x.says(0, 0, year + 1), 1);
        }
        x = Texts.withLand(ONE + "law 0 0 to 1 if year same 60;");
        doc.due("from YEAR 60 nobody turns", x.says(0, 0, 60), 0);
    }

    private void signs() {
        doc.sentence(TERMS, "more: the first is above the second one, less, same.");
        String[] signs = {"less", "same", "more"};
        for (int sign = 0; sign < 3; sign++) {
            for (int first = 4; first <= 6; first++) {
                holds(first + " " + signs[sign] + " 5", first - 5 == sign - 1);
                holds("0 minus " + first + " " + signs[sign] + " 0 minus 5", 5 - first == sign - 1);
            }
        }
    }

    private void beyond() {
        doc.sentence(TERMS, "It does not HOLD, if any number on the way, in the order in which it stands (times first), is "
                + "beyond 1,000,000,000 either way.");
        holds(MILLIARD + " more 999", true);
        holds("999 less " + MILLIARD, true);
        holds(MILLIARD + " same " + MILLIARD, true);
        holds("504 times 109 times 109 times 167 more 999", false);
        holds("999 less 504 times 109 times 109 times 167", false);
        holds(MILLIARD + " plus 1 more 999", false);
        holds("999 less " + MILLIARD + " plus 1", false);
        holds("1 plus " + MILLIARD + " more 999", false);
        holds(MILLIARD + " plus 0 more 999", true);
        holds("0 minus " + MILLIARD + " less 0", true);
        holds("0 more 0 minus " + MILLIARD, true);
        holds("0 minus " + MILLIARD + " minus 1 less 0", false);
        holds("0 minus 1 minus " + MILLIARD + " less 0", false);
        holds("0 minus " + MILLIARD + " minus 0 less 0", true);
        holds("0 minus 504 times 109 times 109 times 167 less 0", false);
        // The way counts, not where it leads to.
        holds(MILLIARD + " plus 1 minus 1 more 999", false);
        holds(MILLIARD + " minus 1 plus 1 more 999", true);
        holds("0 minus " + MILLIARD + " minus 1 plus 1 less 0", false);
        holds("0 minus " + MILLIARD + " plus 1 minus 1 less 0", true);
        holds(MILLIARD + " plus " + MILLIARD + " minus " + MILLIARD + " more 0", false);
        holds(MILLIARD + " minus " + MILLIARD + " plus " + MILLIARD + " more 0", true);
        holds("504 times 109 times 109 times 167 times 0 same 0", false);
        holds("0 times 504 times 109 times 109 times 167 same 0", true);
        holds("1 minus 504 times 109 times 109 times 167 times 0 same 1", false);
        holds("999 times 999 times 999 times 999 more 0", false);
        holds("1" + " times 512".repeat(8) + " same 0", false);
        holds("0 minus 1" + " times 512".repeat(8) + " same 0", false);
        holds("2 plus 3 times 4 minus 1 same 13", true);
        SaysBath x = Texts.withLand(VILLAGE + "item of 3 standard 0;law 0 0 to 1 if " + MILLIARD + " plus 1 more 0;"
                + "law 0 0 to 2 if 1 more 0;");
        doc.due("the next LAW", x.turned(0, 0, 0), 1);
    }

    private void linesAndAreas() {
        doc.sentence(TERMS, "III. A ROAD is a LINE of an ITEM, if both its VILLAGES say otherwise.");
        SaysBath x = Texts.withLand(VILLAGE.repeat(3) + "road 0 1;road 1 2;road 2 0;item of 3 standard 0;says 0 0 1;"
                + "says 1 0 1;says 2 0 2;");
        int[] due = {0, 1, 1};
        for (int road = 0; road < 3; road++) {
            doc.due("bundle(" + road + ", 0)", x.bundle(road, 0), due[road]);
        }
        doc.due("lines(0, 0)", x.lines(0, 0), 2);

        doc.sentence(TERMS, "AREAS by k: VILLAGES that hang together by ROADS that are LINES of fewer than k ITEMS.");
        for (int items = 0; items <= 10; items++) {
            x = differing(items);
            for (int k = 1; k <= 11; k++) {
                doc.due("areas(" + k + ", 0) with " + items, x.areas(k, 0), items < k ? 1 : 2);
                doc.due("area(1, " + k + ", 0) with " + items, x.area(1, k, 0), items < k ? 0 : 1);
            }
        }
        x = Texts.withLand(VILLAGE.repeat(4) + "road 3 1;road 0 2;road 2 3;");
        doc.due("by others in between", x.areas(1, 0), 1);
        doc.due("without ROADS", Texts.withLand(VILLAGE.repeat(4)).areas(11, 0), 4);
    }

    private void says() {
        doc.sentence(6, "What VILLAGE v says for an ITEM in a YEAR (0 .. 60).");
        SaysBath x = full();
        doc.due("says(0, 0, 0)", x.says(0, 0, 0), 0);
        doc.due("says(23, 0, 0)", x.says(23, 0, 0), 1);
        doc.due("says(23, 9, 0)", x.says(23, 9, 0), 1);
        doc.due("says(23, 9, 60)", x.says(23, 9, 60), 2);
        doc.due("says(22, 9, 60)", x.says(22, 9, 60), 0);
        doc.due("says(23, 8, 60)", x.says(23, 8, 60), 1);

        doc.sentence(6, "NONE for others.");
        doc.outside("says", NONE, new int[] {0, 0, 0}, new int[] {2, 1, 60}, (b, a) -> b.says(a[0], a[1], a[2]));
        doc.outside("says", MapBounds::full, fullLook, NONE, new int[] {0, 0, 0}, new int[] {23, 9, 60},
                (b, a) -> b.says(a[0], a[1], a[2]));
    }

    private void turned() {
        doc.sentence(7, "The LAW by which it turned from a YEAR (0 .. 59) to the next;");
        SaysBath x = Texts.withLand(SWINGING);
        for (int year = 0; year <= 59; year++) {
            doc.due("turned(0, 0, " + year + ")", x.turned(0, 0, year), year % 2);
        }
        doc.due("turned(23, 9, 0)", full().turned(23, 9, 0), 0);

        doc.sentence(7, "NONE: it did not.");
        x = full();
        doc.due("turned(22, 9, 0)", x.turned(22, 9, 0), NONE);
        doc.due("turned(23, 9, 1)", x.turned(23, 9, 1), NONE);
        doc.due("turned(23, 9, 59)", x.turned(23, 9, 59), NONE);
        doc.due("turned(23, 8, 0)", x.turned(23, 8, 0), NONE);

        doc.sentence(7, "-2: there are none such.");
        doc.outside("turned", -2, new int[] {0, 0, 0}, new int[] {2, 1, 59}, (b, a) -> b.turned(a[0], a[1], a[2]));
        doc.outside("turned", MapBounds::full, fullLook, -2, new int[] {0, 0, 0}, new int[] {23, 9, 59},
                (b, a) -> b.turned(a[0], a[1], a[2]));
    }

    private void lines() {
        doc.sentence(8, "How many ROADS are LINES of an ITEM in a YEAR.");
        SaysBath x = Texts.withLand(Busy.LAND);
        int[] due = {1, 1, 0};
        for (int year = 0; year < 3; year++) {
            doc.due("lines(0, " + year + ")", x.lines(0, year), due[year]);
        }
        doc.due("lines(0, 60)", x.lines(0, 60), 0);
        doc.due("lines(1, 60)", x.lines(1, 60), 1);
        doc.due("lines(9, 60)", full().lines(9, 60), 18);
        doc.due("all ROADS", Texts.withLand(VILLAGE + VILLAGE + ITEM + "says 0 0 1;" + "road 0 1;".repeat(40)).lines(0, 0), 40);
        doc.due("no ROADS", Texts.withLand(ONE).lines(0, 0), 0);

        doc.sentence(8, "-2: there are none such.");
        doc.outside("lines", -2, new int[] {0, 0}, new int[] {1, 60}, (b, a) -> b.lines(a[0], a[1]));
        doc.due("lines(10, 0) of ten ITEMS", full().lines(10, 0), -2);
        doc.due("lines(0, 0) of none", Texts.withLand(VILLAGE).lines(0, 0), -2);
    }

    private void bundle() {
        doc.sentence(9, "Of how many ITEMS a ROAD is a LINE in a YEAR.");
        for (int items = 0; items <= 10; items++) {
            doc.due("bundle(0, 0)", differing(items).bundle(0, 0), items);
            doc.due("bundle(0, 60)", differing(items).bundle(0, 60), items);
        }
        doc.due("bundle(21, 60)", full().bundle(21, 60), 0);
        doc.due("bundle(39, 60)", full().bundle(39, 60), 10);
        doc.due("no ITEMS", Texts.withLand(VILLAGE + VILLAGE + "road 0 1;").bundle(0, 0), 0);

        doc.sentence(9, "-2: there are none such.");
        doc.outside("bundle", -2, new int[] {0, 0}, new int[] {1, 60}, (b, a) -> b.bundle(a[0], a[1]));
        doc.due("bundle(40, 0) of forty", full().bundle(40, 0), -2);
        doc.due("bundle(0, 0) of none", Texts.withLand(VILLAGE).bundle(0, 0), -2);
    }

    private void thick() {
        doc.sentence(10, "The ROAD with the greatest bundle(), the first of several;");
        doc.due("thick(0)", full().thick(0), 22);
        doc.due("thick(60)", full().thick(60), 22);
        doc.due("none is a LINE", Texts.withLand(VILLAGE + VILLAGE + "road 0 1;road 1 0;").thick(0), 0);
        doc.due("the last alone", Texts.withLand(VILLAGE.repeat(3) + "road 0 1;".repeat(39) + "road 1 2;" + ITEM
                + "says 2 0 1;").thick(60), 39);
        SaysBath x = Texts.withLand(Busy.LAND);
        doc.due("one each: the first", x.thick(0), 0);
        doc.due("two of the second", x.thick(1), 1);

        doc.sentence(10, "NONE: there are no ROADS.");
        doc.due("thick(0)", Texts.withLand(VILLAGE + VILLAGE + ITEM).thick(0), NONE);
        doc.due("thick(60)", new SaysBath().thick(60), NONE);

        doc.sentence(10, "-2: there is no such YEAR.");
        doc.outside("thick", -2, new int[] {0}, new int[] {60}, (b, a) -> b.thick(a[0]));
        doc.due("thick(61) without ROADS", new SaysBath().thick(61), -2);
        doc.due("thick(-1) without ROADS", new SaysBath().thick(-1), -2);
    }

    private void crossed() {
        doc.sentence(11, "How many ROADS have a bundle() of k (0 .. 10) or more.");
        for (int items = 0; items <= 10; items++) {
            SaysBath x = differing(items);
            for (int k = 0; k <= 10; k++) {
                doc.due("crossed(" + k + ", 0) with " + items, x.crossed(k, 0), items >= k ? 1 : 0);
            }
        }
        doc.due("crossed(0, 60)", full().crossed(0, 60), 40);
        doc.due("crossed(10, 60)", full().crossed(10, 60), 18);
        doc.due("no ROADS", new SaysBath().crossed(0, 0), 0);

        doc.sentence(11, "-2: others.");
        doc.outside("crossed", -2, new int[] {0, 0}, new int[] {10, 60}, (b, a) -> b.crossed(a[0], a[1]));
    }

    private void areas() {
        doc.sentence(12, "AREAS (III) by k (1 .. 11) in a YEAR: how many.");
        SaysBath x = full();
        int[][] due = {{1, 2}, {10, 2}, {11, 1}};
        for (int[] pair : due) {
            doc.due("areas(" + pair[0] + ", 0)", x.areas(pair[0], 0), pair[1]);
            doc.due("areas(" + pair[0] + ", 60)", x.areas(pair[0], 60), pair[1]);
        }
        doc.due("no VILLAGES", new SaysBath().areas(1, 0), 0);
        doc.due("one VILLAGE", Texts.withLand(VILLAGE).areas(1, 0), 1);
        doc.due("24 without a ROAD", Texts.withLand(VILLAGE.repeat(24)).areas(11, 60), 24);

        doc.sentence(12, "-2: others.");
        doc.outside("areas", -2, new int[] {1, 0}, new int[] {11, 60}, (b, a) -> b.areas(a[0], a[1]));
    }

    private void area() {
        doc.sentence(13, "The least VILLAGE of the AREA of v.");
        SaysBath x = full();
        doc.due("area(23, 10, 60)", x.area(23, 10, 60), 23);
        doc.due("area(23, 11, 60)", x.area(23, 11, 60), 0);
        doc.due("area(22, 1, 0)", x.area(22, 1, 0), 0);
        doc.due("area(0, 1, 0)", x.area(0, 1, 0), 0);
        x = Texts.withLand(VILLAGE.repeat(5) + "road 4 2;road 3 4;road 3 1;");
        int[] due = {0, 1, 1, 1, 1};
        for (int v = 0; v < 5; v++) {
            doc.due("area(" + v + ", 1, 0)", x.area(v, 1, 0), due[v]);
        }

        doc.sentence(13, "-2: others.");
        doc.outside("area", -2, new int[] {0, 1, 0}, new int[] {2, 11, 60}, (b, a) -> b.area(a[0], a[1], a[2]));
        doc.due("area(24, 1, 0) of 24", full().area(24, 1, 0), -2);
        doc.due("area(0, 1, 0) of none", new SaysBath().area(0, 1, 0), -2);
    }

    private void moved() {
        doc.sentence(14, "VILLAGES that say otherwise for an ITEM in one YEAR than in another one, as bits.");
        SaysBath x = Texts.withLand(SWINGING);
        for (int year = 0; year <= 60; year++) {
            doc.due("moved(0, 0, " + year + ")", x.moved(0, 0, year), year % 2);
            doc.due("moved(0, " + year + ", 60)", x.moved(0, year, 60), year % 2);
            doc.due("moved(0, " + year + ", " + year + ")", x.moved(0, year, year), 0);
        }
        doc.due("the 24th VILLAGE", full().moved(9, 0, 60), 1 << 23);
        doc.due("the other way", full().moved(9, 60, 0), 1 << 23);
        doc.due("another ITEM", full().moved(8, 0, 60), 0);
        doc.due("two of three", Texts.withLand(Busy.LAND).moved(0, 0, 60), 6);
        doc.due("all 24", Texts.withLand(VILLAGE.repeat(24) + ITEM + "law 0 0 to 1 if 1 more 0;").moved(0, 0, 1), 0xffffff);

        doc.sentence(14, "-2: there are none such.");
        doc.outside("moved", -2, new int[] {0, 0, 0}, new int[] {1, 60, 60}, (b, a) -> b.moved(a[0], a[1], a[2]));
        doc.due("moved(10, 0, 0) of ten", full().moved(10, 0, 0), -2);
    }

    private void still() {
        doc.sentence(15, "The first YEAR from which on to YEAR 60 no VILLAGE turns for an ITEM.");
        doc.due("no LAWS", Texts.withLand(ONE).still(0), 0);
        doc.due("no VILLAGES", Texts.withLand(ITEM + "law 0 0 to 1 if 1 more 0;").still(0), 0);
        doc.due("no LAW HOLDS", Texts.withLand(ONE + "law 0 0 to 1 if year same 60;").still(0), 0);
        for (int year : new int[] {0, 1, 30, 58, 59}) {
            SaysBath x = Texts.withLand(ONE + ITEM + "law 0 0 to 1 if year same " + year + ";");
            doc.due("turned from YEAR " + year, x.still(0), year + 1);
            doc.due("another ITEM", x.still(1), 0);
        }
        doc.due("each YEAR", Texts.withLand(SWINGING).still(0), 60);
        SaysBath x = Texts.withLand("village size 1;village size 2;" + ITEM
                + "law 0 0 to 1 if year same 5 times size;law 0 1 to 0 if year same 50;");
        doc.due("the last of several", x.still(0), 51);
        doc.due("ITEM 9", full().still(9), 1);

        doc.sentence(15, "-2: there is none such.");
        doc.outside("still", -2, new int[] {0}, new int[] {1}, (b, a) -> b.still(a[0]));
        doc.outside("still", MapBounds::full, fullLook, -2, new int[] {0}, new int[] {9}, (b, a) -> b.still(a[0]));
    }

    private void ways(String roads, long atRiver, long asMany, long all) {
        SaysBath x = Texts.withLand(VILLAGE.repeat(3) + ITEM + "says 0 0 1;" + roads);
        doc.due("river(0, 0, 0) of " + roads, x.river(0, 0, 0), atRiver);
        doc.due("river(0, 0, 1) of " + roads, x.river(0, 0, 1), asMany);
        doc.due("river(0, 0, 2) of " + roads, x.river(0, 0, 2), all);
    }

    private void river() {
        doc.sentence(16, "LINES of an ITEM in a YEAR that are at a river (what 0);");
        ways("", 0, 1, 1);
        ways("road 1 2;road 1 2 river;", 0, 1, 1);
        ways("road 0 1 river;road 1 2 river;", 1, 2, 2);
        SaysBath x = Texts.withLand(Busy.LAND);
        int[] due = {0, 1, 0};
        for (int year = 0; year < 3; year++) {
            doc.due("river(0, " + year + ", 0)", x.river(0, year, 0), due[year]);
        }
        doc.due("river(1, 60, 0)", x.river(1, 60, 0), 1);

        doc.sentence(16, "of all ways to choose as many ROADS as there are LINES those with as many at a river or more "
                + "(what 1), all (what 2).");
        ways("road 0 1 river;road 0 1;road 1 2 river;road 1 2;", 1, 5, 6);
        ways("road 0 1 river;road 0 2 river;road 1 2;road 1 2;", 2, 1, 6);
        ways("road 0 1;road 0 2;road 1 2 river;road 1 2 river;", 0, 6, 6);
        ways("road 0 1;road 0 2 river;", 1, 1, 1);
        ways("road 0 1;".repeat(40), 0, 1, 1);
        ways("road 0 1;" + "road 1 2;".repeat(39), 0, 40, 40);
        ways("road 0 1river;" + "road 1 2;".repeat(39), 1, 1, 40);
        ways("road 0 1;".repeat(20) + "road 1 2river;".repeat(20), 0, 137846528820L, 137846528820L);
        ways("road 0 1river;".repeat(20) + "road 1 2;".repeat(20), 20, 1, 137846528820L);
        ways("road 0 1;".repeat(20) + "road 1 2;".repeat(20), 0, 137846528820L, 137846528820L);
        ways("road 0 1;".repeat(19) + "road 0 1river;road 1 2river;" + "road 1 2;".repeat(19), 1, 104268528210L,
                137846528820L);
        doc.due("18 of 40", full().river(9, 60, 2), 113380261800L);
    }

    private void riverBounds() {
        doc.sentence(16, "-2: there are none such.");
        doc.outside("river", -2, new int[] {0, 0, 0}, new int[] {1, 60, 2}, (b, a) -> b.river(a[0], a[1], a[2]));
        doc.due("river(10, 0, 0) of ten", full().river(10, 0, 0), -2);
        doc.due("river(0, 0, 1) of none", new SaysBath().river(0, 0, 1), -2);
    }

    private void tells() {
        String two = VILLAGE + VILLAGE;
        doc.sentence(17, "ITEMS by which any two VILLAGES are told from each other in a YEAR, as bits: the fewest, of several "
                + "the least bits;");
        doc.due("no VILLAGES", Texts.withLand(ITEM).tells(0), 0);
        doc.due("one VILLAGE", Texts.withLand(ONE).tells(60), 0);
        doc.due("the first ITEM", Texts.withLand(two + ITEM.repeat(10) + "says 0 0 1;").tells(0), 1);
        doc.due("the tenth", Texts.withLand(two + ITEM.repeat(10) + "says 0 9 1;").tells(60), 512);
        doc.due("the least bits of several", differing(10).tells(0), 1);
        String three = two + VILLAGE;
        String items = ITEM.repeat(3) + "item of 3 standard 0;";
        String told = "says 0 0 1;says 1 1 1;says 2 2 1;";
        doc.due("two ITEMS, the least bits", Texts.withLand(three + items + told).tells(0), 3);
        doc.due("one is fewer, though its bits are more", Texts.withLand(three + items + told + "says 1 3 1;says 2 3 2;")
                .tells(0), 8);
        StringBuilder text = new StringBuilder(VILLAGE.repeat(11) + ITEM.repeat(10));
        for (int i = 0; i < 10; i++) {
            text.append("says ").append(i).append(' ').append(i).append(" 1;");
        }
        doc.due("all ten", Texts.withLand(text.toString()).tells(0), 1023);
        SaysBath x = Texts.withLand(two + ITEM + ITEM + "says 0 0 1;says 0 1 1;law 0 0 to 1 if year same 59;");
        doc.due("YEAR 59", x.tells(59), 1);
        doc.due("YEAR 60", x.tells(60), 2);
        doc.due("YEAR 59 once more", x.tells(59), 1);

        doc.sentence(17, "NONE: not by all.");
        doc.due("no ITEMS", Texts.withLand(two).tells(0), NONE);
        doc.due("two of three are alike", Texts.withLand(three + ITEM + "says 0 0 1;").tells(0), NONE);
        doc.due("23 of 24 are alike", full().tells(60), NONE);
        x = Texts.withLand(two + ITEM + "says 0 0 1;law 0 0 to 1 if year same 59;");
        doc.due("in YEAR 60 they are alike", x.tells(60), NONE);
        doc.due("in YEAR 59 they are not", x.tells(59), 1);

        doc.sentence(17, "-2: there is no such YEAR.");
        doc.outside("tells", -2, new int[] {0}, new int[] {60}, (b, a) -> b.tells(a[0]));
        doc.due("without VILLAGES", new SaysBath().tells(61), -2);
    }

    private void alone() {
        doc.sentence(18, "ITEMS by which VILLAGE v is told from each other one, likewise.");
        doc.due("one VILLAGE", Texts.withLand(ONE).alone(0, 0), 0);
        doc.due("no ITEMS", Texts.withLand(VILLAGE + VILLAGE).alone(1, 0), NONE);
        SaysBath x = full();
        doc.due("alone(23, 0)", x.alone(23, 0), 1);
        doc.due("alone(22, 60)", x.alone(22, 60), NONE);
        doc.due("alone(23, 60)", x.alone(23, 60), 1);
        x = Texts.withLand(VILLAGE.repeat(4) + ITEM.repeat(3) + "says 0 0 1;says 0 1 1;says 1 1 1;says 3 2 1;");
        int[] due = {1, 3, 6, 4};
        for (int v = 0; v < 4; v++) {
            doc.due("alone(" + v + ", 0)", x.alone(v, 0), due[v]);
        }

        doc.sentence(18, "-2: there are none such.");
        doc.outside("alone", -2, new int[] {0, 0}, new int[] {2, 60}, (b, a) -> b.alone(a[0], a[1]));
        doc.due("alone(24, 0) of 24", full().alone(24, 0), -2);
        doc.due("alone(0, 0) of none", new SaysBath().alone(0, 0), -2);
    }
}
