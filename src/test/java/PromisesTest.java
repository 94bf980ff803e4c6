/** Each promise of the document with answers worked out by hand: ordinary inputs, named edges, wrong inputs. */
public final class PromisesTest {
    private static final int NONE = -1;
    private static final int NOTHING = -2000000000;

    /** A chain of four VILLAGES; ITEM 0 spreads from the first a VILLAGE a YEAR, ITEM 1 stays. */
    private static final String CHAIN = "village size 10; village size 20; village size 30; village size 5;\n"
            + "road 0 1; road 1 2 river; road 2 3; item of 3 standard 1; item of 2 standard 0;\n"
            + "says 0 0 2; says 3 1 1; law 0 0 to 2 if near 2 more 0;";

    private static int wrong = 0;
    private static int held = 0;

    private PromisesTest() {
    }

    private static void due(int promise, String call, long got, long want) {
        held++;
        if (got != want) {
            wrong++;
            System.out.println("promise " + promise + ": " + call + " answered " + got + ", due is " + want);
        }
    }

    public static void main(String[] args) {
        newObject();
        tape();
        land();
        faults();
        faultPlaces();
        limits();
        map();
        laws();
        sums();
        lines();
        areas();
        moves();
        rivers();
        telling();
        hearing();
        hearingRows();
        fitting();
        asking();
        pairs();
        noting();
        odds();
        farOdds();
        leaning();
        leaningBounds();
        counting();
        images();
        lawImages();
        fullLand();
        rows();
        pasting();
        System.out.println(held + " answers looked at, " + wrong + " not as due");
        if (wrong != 0) {
            System.exit(1);
        }
    }

    private static void newObject() {
        SaysBath x = new SaysBath();
        for (int what = 0; what <= 8; what++) {
            due(1, "count(" + what + ")", x.count(what), 0);
        }
        due(1, "NONE", SaysBath.NONE, -1);
        due(1, "says", x.says(0, 0, 0), NONE);
        due(1, "village", x.village(0, 0), NOTHING);
        due(1, "hear", x.hear(0, 0, false), -2);
        due(1, "note", x.note(0, 0, 0, 1), -2);
        due(1, "mute", x.mute(), 0);
        due(1, "thick", x.thick(0), NONE);
        due(1, "tells", x.tells(60), 0);
        due(1, "from", x.from(60), NONE);
        due(1, "back", x.back(0), -6);
    }

    private static void tape() {
        SaysBath x = new SaysBath();
        due(2, "feed", x.feed(0x76696c6c, 0x61676520, 0x73697a65, 0x20373b20, 0x20202020), 20);
        due(2, "count(5)", x.count(5), 20);
        due(2, "land", x.land(), 1);
        due(2, "its size", x.village(0, 0), 7);
        due(2, "count(5) behind land", x.count(5), 0);
        for (int i = 1; i <= 60; i++) {
            due(2, "feed", x.feed(i, i, i, i, i), 20 * i);
        }
        due(2, "feed beyond 1200", x.feed(1, 1, 1, 1, 1), NONE);
        due(2, "count(5) full", x.count(5), 1200);
        due(3, "end(1201)", x.end(1201), NONE);
        due(3, "end(-1)", x.end(-1), NONE);
        due(3, "count(5)", x.count(5), 1200);
        due(3, "end(1200)", x.end(1200), 1200);
        due(3, "end(1181)", x.end(1181), 1181);
        due(2, "feed to 1201", x.feed(1, 1, 1, 1, 1), NONE);
        due(3, "end(1180)", x.end(1180), 1180);
        due(2, "feed to 1200", x.feed(1, 1, 1, 1, 1), 1200);
        due(3, "end(0)", x.end(0), 0);
        due(3, "end(1)", x.end(1), NONE);
        due(3, "count(5)", x.count(5), 0);
        Texts.put(x, "village size 3;x");
        due(3, "end(15)", x.end(15), 15);
        due(3, "land of the first bytes", x.land(), 1);
    }

    private static void land() {
        SaysBath x = Texts.withLand(CHAIN);
        due(4, "count(0)", x.count(0), 12);
        x.hear(0, 1, false);
        x.note(1, 1, 1, 4);
        x.walk(2, 3);
        Texts.put(x, "village size 0;");
        due(4, "land with a FAULT", x.land(), -4);
        due(4, "VILLAGES stay", x.count(1), 4);
        due(4, "HEARD stays", x.heard(0), 1);
        due(4, "NOTED stays", x.noted(1, 1, 1), 4);
        due(4, "who walked stays", x.village(2, 2), 3);
        due(4, "the map stays", x.says(3, 0, 3), 2);
        due(4, "the TAPE is empty", x.count(5), 0);
        Texts.put(x, "village size 1;village size 2;village size 3;item of 5 standard 4;item of 2 standard 0;");
        due(4, "land", x.land(), 5);
        due(4, "VILLAGES", x.count(1), 3);
        due(4, "ROADS", x.count(2), 0);
        due(4, "LAWS", x.count(4), 0);
        due(4, "heard", x.heard(0), NONE);
        due(4, "HEARD", x.count(6), 0);
        due(4, "NOTED", x.count(7), 0);
        due(4, "noted", x.noted(1, 1, 1), 0);
        due(4, "who walked", x.village(2, 2), NONE);
        due(4, "says is not told any more", x.says(0, 0, 0), 0);
        due(4, "land of nothing", x.land(), 0);
        due(4, "VILLAGES", x.count(1), 0);
        Texts.put(x, " \n \n ");
        due(4, "land of blanks", x.land(), 0);
        Texts.put(x, "village");
        Texts.put(x, " size 12;");
        due(4, "land of two pieces", x.land(), 1);
        due(4, "size", x.village(0, 0), 12);
        Texts.put(x, "village\nsize007;village size99;road0 1river;item of2standard1;says1 0 1;law0 1to0if1more year;");
        due(4, "land with few blanks", x.land(), 6);
        due(4, "size 007", x.village(0, 0), 7);
    }

    private static void fault(String text, int kind, int place) {
        SaysBath x = new SaysBath();
        Texts.put(x, text);
        due(5, "land() of " + text, x.land(), kind == 0 ? x.count(0) : -4);
        due(5, "fault(0) of " + text, x.fault(0), kind);
        due(5, "fault(1) of " + text, x.fault(1), place);
    }

    private static void faults() {
        SaysBath x = new SaysBath();
        due(5, "fault(0) ahead of any", x.fault(0), 0);
        due(5, "fault(1) ahead of any", x.fault(1), NONE);
        due(5, "fault(2)", x.fault(2), NONE);
        due(5, "fault(-1)", x.fault(-1), NONE);
        Texts.put(x, "road");
        x.land();
        due(5, "fault(0)", x.fault(0), 1);
        due(5, "fault(2)", x.fault(2), NONE);
        x.land();
        due(5, "fault(0) of the latest", x.fault(0), 0);
        due(5, "fault(1) of the latest", x.fault(1), NONE);
        fault("village size 0;", 2, 13);
        fault("village size 100;", 2, 13);
        fault("village size 1;", 0, NONE);
        fault("village size 99999999999999999999;", 2, 13);
        fault("village size 4294967297;", 2, 13);
        fault("village;", 1, 7);
        fault("villages size 1;", 1, 0);
        fault("villagesize 1;", 1, 0);
        fault("village size x;", 1, 13);
        fault("village size 1", 1, 14);
        fault("village size 1  \n", 1, 17);
        fault("village size 1;;", 1, 15);
        fault("village size -1;", 1, 13);
        fault("\tvillage size 1;", 1, 0);
        fault("village\rsize 1;", 1, 7);
        fault("Village size 1;", 1, 0);
        fault("village size 1; \u00e9", 1, 16);
        fault("village size 1;\u0000", 1, 15);
        fault("village size 1;\u00ff", 1, 15);
        fault("1;", 1, 0);
        fault("village size 1;village size 1;road 0 0;", 2, 37);
        fault("road 0 1;", 2, 5);
        fault("village size 1;road 0 1;", 2, 22);
        fault("village size 1;village size 1;road 0 1 rivers;", 1, 39);
        fault("village size 1;village size 1;road 0 1 river river;", 1, 45);
        fault("village size 1;village size 1;road 0 river;", 1, 37);
        fault("item of 1 standard 0;", 2, 8);
        fault("item of 6 standard 0;", 2, 8);
        fault("item of 5 standard 5;", 2, 19);
        fault("item of 5 standard 4;", 0, NONE);
        fault("item of 2 standard;", 1, 18);
        fault("item standard 0;", 1, 5);
    }

    private static void faultPlaces() {
        String two = "village size 1;item of 2 standard 0;";
        fault(two + "says 1 0 0;", 2, 41);
        fault(two + "says 0 1 0;", 2, 43);
        fault(two + "says 0 0 2;", 2, 45);
        fault(two + "says 0 0 1;says 0 0 1;", 2, 54);
        fault(two + "says 0 0 1;says 0 0;", 2, 54);
        fault(two + "law 1 0 to 1 if 1 more 0;", 2, 40);
        fault(two + "law 0 2 to 1 if 1 more 0;", 2, 42);
        fault(two + "law 0 0 to 2 if 1 more 0;", 2, 47);
        fault(two + "law 0 0 to 1 if near 2 more 0;", 2, 57);
        fault(two + "law 0 0 to 1 if 1 more mass 2;", 2, 64);
        fault(two + "law 0 0 to 1 if 1000 more 0;", 2, 52);
        fault(two + "law 0 0 to 1 if 999 more 0;", 0, NONE);
        fault(two + "law 0 0 to 0 if 999 more 0;", 0, NONE);
        fault(two + "law 0 0 to 1 if 1 above 0;", 1, 54);
        fault(two + "law 0 0 to 1 if 1;", 1, 53);
        fault(two + "law 0 0 to 1 if 1 more;", 1, 58);
        fault(two + "law 0 0 to 1 if 1 more 1 more 1;", 1, 61);
        fault(two + "law 0 0 to 1 if 1 plus plus 1 more 1;", 1, 59);
        fault(two + "law 0 0 to 1 if minus 1 more 1;", 1, 52);
        fault(two + "law 0 0 to 1 if near more 1;", 1, 57);
        fault(two + "law 0 0 to 1 if 1 2 more 1;", 1, 54);
        fault(two + "law 0 0 to 1 if size times year minus mass 1 times 3 same near 0 plus 2;", 0, NONE);
        fault(two + "law 0 0 to 1 if 1 less", 1, 58);
        fault("village size 0 x", 2, 13);
        fault("village ! size 0;", 1, 8);
    }

    private static void limits() {
        String villages = "village size 1;".repeat(24);
        fault(villages, 0, NONE);
        fault(villages + "village size 1;", 3, 360);
        fault(villages + "village", 3, 360);
        String roads = "village size 1;village size 1;" + "road 0 1;".repeat(40);
        fault(roads, 0, NONE);
        fault(roads + " road 0 0;", 3, 391);
        String items = "item of 2 standard 0;".repeat(10);
        fault(items, 0, NONE);
        fault(items + "\nitem of 9", 3, 211);
        String laws = "item of 2 standard 0;" + "law 0 0 to 1 if 1 more 1;".repeat(20);
        fault(laws, 0, NONE);
        fault(laws + "law 7", 3, 521);
        String sum = "item of 2 standard 0;law 0 0 to 1 if 1";
        fault(sum + "plus1".repeat(230) + "more1;", 0, NONE);
        SaysBath x = Texts.withLand("village size 1;" + sum + "plus1".repeat(150) + "same 151;");
        due(6, "a SUM of 151 PARTS", x.says(0, 0, 1), 1);
    }

    private static void map() {
        SaysBath x = Texts.withLand(CHAIN);
        int[][] due = {{2, 0, 0, 0}, {2, 2, 0, 0}, {2, 2, 2, 0}, {2, 2, 2, 2}};
        for (int year = 0; year < 4; year++) {
            for (int v = 0; v < 4; v++) {
                due(6, "says(" + v + ", 0, " + year + ")", x.says(v, 0, year), due[year][v]);
                due(6, "says(" + v + ", 1, " + year + ")", x.says(v, 1, year), v == 3 ? 1 : 0);
                int law = year < 3 && v == year + 1 ? 0 : NONE;
                due(7, "turned(" + v + ", 0, " + year + ")", x.turned(v, 0, year), law);
                due(7, "turned(" + v + ", 1, " + year + ")", x.turned(v, 1, year), NONE);
            }
        }
        due(6, "YEAR 60", x.says(3, 0, 60), 2);
        due(6, "YEAR 61", x.says(3, 0, 61), NONE);
        due(6, "YEAR -1", x.says(3, 0, -1), NONE);
        due(6, "VILLAGE 4", x.says(4, 0, 0), NONE);
        due(6, "VILLAGE -1", x.says(-1, 0, 0), NONE);
        due(6, "ITEM 2", x.says(0, 2, 0), NONE);
        due(6, "ITEM -1", x.says(0, -1, 0), NONE);
        due(7, "YEAR 59", x.turned(3, 0, 59), NONE);
        due(7, "YEAR 60", x.turned(3, 0, 60), -2);
        due(7, "YEAR -1", x.turned(3, 0, -1), -2);
        due(7, "VILLAGE 4", x.turned(4, 0, 0), -2);
        due(7, "ITEM 2", x.turned(0, 2, 0), -2);
        due(7, "far", x.turned(Integer.MIN_VALUE, Integer.MAX_VALUE, Integer.MIN_VALUE), -2);
    }

    /** What VILLAGE 0 says in YEAR 1 for an ITEM of 3 with that LAW's "if". Its neighbours: 1 (twice), 2. */
    private static int turnedBy(String condition) {
        return Texts.withLand("village size 7;village size 20;village size 30;village size 40;road 0 1;road 1 0;"
                + "road 2 0;road 2 3;item of 3 standard 0;item of 2 standard 0;says 1 0 1;says 2 0 1;says 3 0 2;"
                + "law 0 0 to 2 if " + condition + ";").says(0, 0, 1);
    }

    private static void laws() {
        due(6, "near counts ROADS", turnedBy("near 1 same 3"), 2);
        due(6, "near of others", turnedBy("near 0 plus near 2 same 0"), 2);
        due(6, "mass counts VILLAGES once", turnedBy("mass 1 same 50"), 2);
        due(6, "mass of others", turnedBy("mass 2 same 0"), 2);
        due(6, "size", turnedBy("size same 7"), 2);
        due(6, "year", turnedBy("year same 0"), 2);
        due(6, "more", turnedBy("2 more 1"), 2);
        due(6, "more of the same", turnedBy("2 more 2"), 0);
        due(6, "less", turnedBy("1 less 2"), 2);
        due(6, "less of the same", turnedBy("2 less 2"), 0);
        due(6, "same of others", turnedBy("2 same 1"), 0);
        String one = "village size 1;item of 4 standard 0;";
        SaysBath x = Texts.withLand(one + "law 0 1 to 2 if 1 more 0;law 0 0 to 3 if 1 more 1;"
                + "law 0 0 to 1 if year same 5;law 0 0 to 2 if 1 same 1;law 0 2 to 0 if year less 8;");
        due(6, "YEAR 1", x.says(0, 0, 1), 2);
        due(7, "the first LAW that HOLDS", x.turned(0, 0, 0), 3);
        due(7, "the first LAW that HOLDS", x.turned(0, 0, 1), 4);
        due(6, "all in YEAR 2", x.says(0, 0, 2), 0);
        due(6, "all in YEAR 8", x.says(0, 0, 8), 0);
        due(6, "all in YEAR 9", x.says(0, 0, 9), 2);
        due(6, "all in YEAR 60", x.says(0, 0, 60), 2);
        x = Texts.withLand(one + "law 0 0 to 1 if year same 5;");
        due(7, "from YEAR 5", x.turned(0, 0, 5), 0);
        due(7, "from YEAR 4", x.turned(0, 0, 4), NONE);
        due(6, "in YEAR 5", x.says(0, 0, 5), 0);
        due(6, "in YEAR 6", x.says(0, 0, 6), 1);
        x = Texts.withLand("village size 1;village size 1;road 0 1;item of 2 standard 0;says 0 0 1;"
                + "law 0 0 to 1 if near 1 more 0;law 0 1 to 0 if near 0 more 0;");
        due(6, "both at once", x.says(0, 0, 1), 0);
        due(6, "both at once", x.says(1, 0, 1), 1);
        due(6, "and back", x.says(0, 0, 2), 1);
        due(7, "turned", x.turned(0, 0, 0), 1);
        due(7, "turned", x.turned(1, 0, 0), 0);
        x = Texts.withLand(one + "law 0 0 to 0 if year less 3;");
        due(7, "to the same", x.turned(0, 0, 2), 0);
        due(7, "to the same no more", x.turned(0, 0, 3), NONE);
        due(15, "still", x.still(0), 3);
        x = Texts.withLand("village size 1;village size 1;road 0 1;item of 2 standard 0;item of 2 standard 0;"
                + "says 1 1 1;law 0 0 to 1 if near 1 more 0;");
        due(6, "another ITEM's neighbours", x.says(0, 0, 60), 0);
    }

    private static void sums() {
        due(6, "times first", turnedBy("2 plus 3 times 4 same 14"), 2);
        due(6, "minus from the left", turnedBy("9 minus 3 minus 2 same 4"), 2);
        due(6, "minus a product", turnedBy("20 minus 3 times 4 plus 1 same 9"), 2);
        due(6, "below 0", turnedBy("3 minus 5 less 0"), 2);
        due(6, "below 0 the same", turnedBy("0 minus 2 same 3 minus 5"), 2);
        String milliard = "500 times 500 times 500 times 8";
        due(6, "1,000,000,000", turnedBy(milliard + " more 1"), 2);
        due(6, "1,000,000,001", turnedBy(milliard + " plus 1 more 1"), 0);
        due(6, "beyond on the way", turnedBy(milliard + " plus 1 minus 1 more 1"), 0);
        due(6, "not beyond in that order", turnedBy(milliard + " minus 1 plus 1 more 1"), 2);
        due(6, "-1,000,000,000", turnedBy("0 minus " + milliard + " less 1"), 2);
        due(6, "-1,000,000,000 on the way", turnedBy("0 minus " + milliard + " plus 1 less 1"), 2);
        due(6, "-1,000,000,001", turnedBy("0 minus 1 minus " + milliard + " less 1"), 0);
        due(6, "beyond, times 0", turnedBy("501 times 500 times 500 times 8 times 0 same 0"), 0);
        due(6, "0 times what were beyond", turnedBy("0 times 999 times 999 times 999 times 999 same 0"), 2);
        due(6, "beyond on the right", turnedBy("1 less 501 times 500 times 500 times 8"), 0);
        due(6, "beyond an int", turnedBy("999 times 999 times 999 times 5 more 1"), 0);
        due(6, "beyond a long", turnedBy("1" + " times 999".repeat(30) + " more 1"), 0);
        due(6, "beyond, the first of two LAWS", Texts.withLand("village size 1;item of 3 standard 0;law 0 0 to 1 if "
                + milliard + " plus 1 more 0;law 0 0 to 2 if 1 more 0;").turned(0, 0, 0), 1);
    }

    private static void lines() {
        SaysBath x = Texts.withLand(CHAIN);
        due(8, "lines(0, 0)", x.lines(0, 0), 1);
        due(8, "lines(0, 2)", x.lines(0, 2), 1);
        due(8, "lines(0, 3)", x.lines(0, 3), 0);
        due(8, "lines(1, 60)", x.lines(1, 60), 1);
        due(8, "lines(2, 0)", x.lines(2, 0), -2);
        due(8, "lines(-1, 0)", x.lines(-1, 0), -2);
        due(8, "lines(0, 61)", x.lines(0, 61), -2);
        int[][] bundles = {{1, 0, 1}, {0, 1, 1}, {0, 0, 2}, {0, 0, 1}};
        int[] thick = {0, 1, 2, 2};
        int[][] crossed = {{3, 2, 0}, {3, 2, 0}, {3, 1, 1}, {3, 1, 0}};
        for (int year = 0; year < 4; year++) {
            for (int i = 0; i < 3; i++) {
                due(9, "bundle(" + i + ", " + year + ")", x.bundle(i, year), bundles[year][i]);
                due(11, "crossed(" + i + ", " + year + ")", x.crossed(i, year), crossed[year][i]);
            }
            due(10, "thick(" + year + ")", x.thick(year), thick[year]);
        }
        due(9, "bundle(3, 0)", x.bundle(3, 0), -2);
        due(9, "bundle(-1, 0)", x.bundle(-1, 0), -2);
        due(9, "bundle(0, -1)", x.bundle(0, -1), -2);
        due(9, "bundle(0, 61)", x.bundle(0, 61), -2);
        due(10, "thick(61)", x.thick(61), -2);
        due(10, "thick(-1)", x.thick(-1), -2);
        due(11, "crossed(10, 0)", x.crossed(10, 0), 0);
        due(11, "crossed(11, 0)", x.crossed(11, 0), -2);
        due(11, "crossed(-1, 0)", x.crossed(-1, 0), -2);
        due(11, "crossed(0, 61)", x.crossed(0, 61), -2);
        SaysBath none = new SaysBath();
        due(10, "no ROADS", none.thick(60), NONE);
        due(10, "no ROADS, no YEAR", none.thick(61), -2);
        due(10, "none is a LINE", Texts.withLand("village size 1;village size 1;road 0 1;").thick(0), 0);
    }

    private static void areas() {
        SaysBath x = Texts.withLand(CHAIN);
        due(12, "areas(1, 0)", x.areas(1, 0), 3);
        due(12, "areas(1, 2)", x.areas(1, 2), 2);
        due(12, "areas(2, 2)", x.areas(2, 2), 2);
        due(12, "areas(3, 2)", x.areas(3, 2), 1);
        due(12, "areas(11, 0)", x.areas(11, 0), 1);
        due(12, "areas(0, 0)", x.areas(0, 0), -2);
        due(12, "areas(12, 0)", x.areas(12, 0), -2);
        due(12, "areas(1, 61)", x.areas(1, 61), -2);
        due(13, "area(0, 1, 0)", x.area(0, 1, 0), 0);
        due(13, "area(1, 1, 0)", x.area(1, 1, 0), 1);
        due(13, "area(2, 1, 0)", x.area(2, 1, 0), 1);
        due(13, "area(3, 1, 0)", x.area(3, 1, 0), 3);
        due(13, "area(3, 2, 0)", x.area(3, 2, 0), 0);
        due(13, "area(3, 11, 0)", x.area(3, 11, 0), 0);
        due(13, "area(3, 2, 2)", x.area(3, 2, 2), 3);
        due(13, "area(4, 1, 0)", x.area(4, 1, 0), -2);
        due(13, "area(-1, 1, 0)", x.area(-1, 1, 0), -2);
        due(13, "area(0, 0, 0)", x.area(0, 0, 0), -2);
        due(13, "area(0, 12, 0)", x.area(0, 12, 0), -2);
        due(13, "area(0, 1, -1)", x.area(0, 1, -1), -2);
        StringBuilder text = new StringBuilder("village size 1;".repeat(24));
        for (int v = 0; v < 12; v++) {
            text.append("road ").append(v).append(' ').append(23 - v).append(';');
        }
        for (int v = 0; v < 11; v++) {
            text.append("road ").append(23 - v).append(' ').append(v + 1).append(';');
        }
        x = Texts.withLand(text.toString());
        due(12, "a long way round", x.areas(1, 0), 1);
        due(13, "a long way round", x.area(12, 1, 0), 0);
        due(12, "no ROADS", Texts.withLand("village size 1;village size 1;").areas(11, 0), 2);
    }

    private static void moves() {
        SaysBath x = Texts.withLand(CHAIN);
        due(14, "moved(0, 0, 60)", x.moved(0, 0, 60), 14);
        due(14, "moved(0, 60, 0)", x.moved(0, 60, 0), 14);
        due(14, "moved(0, 1, 2)", x.moved(0, 1, 2), 4);
        due(14, "moved(0, 7, 7)", x.moved(0, 7, 7), 0);
        due(14, "moved(1, 0, 60)", x.moved(1, 0, 60), 0);
        due(14, "moved(2, 0, 0)", x.moved(2, 0, 0), -2);
        due(14, "moved(0, 61, 0)", x.moved(0, 61, 0), -2);
        due(14, "moved(0, 0, -1)", x.moved(0, 0, -1), -2);
        due(15, "still(0)", x.still(0), 3);
        due(15, "still(1)", x.still(1), 0);
        due(15, "still(2)", x.still(2), -2);
        due(15, "still(-1)", x.still(-1), -2);
        String one = "village size 1;item of 2 standard 0;";
        x = Texts.withLand(one + "law 0 0 to 1 if 1 more 0;law 0 1 to 0 if 1 more 0;");
        due(15, "never still ahead of YEAR 60", x.still(0), 60);
        due(14, "there and back", x.moved(0, 0, 60), 0);
        due(14, "there", x.moved(0, 0, 59), 1);
        due(15, "from YEAR 59", Texts.withLand(one + "law 0 0 to 1 if year same 58;").still(0), 59);
        due(15, "from YEAR 60", Texts.withLand(one + "law 0 0 to 1 if year same 60;").still(0), 0);
    }

    private static void rivers() {
        SaysBath x = Texts.withLand(CHAIN);
        due(16, "river(0, 0, 0)", x.river(0, 0, 0), 0);
        due(16, "river(0, 0, 1)", x.river(0, 0, 1), 3);
        due(16, "river(0, 0, 2)", x.river(0, 0, 2), 3);
        due(16, "river(0, 1, 0)", x.river(0, 1, 0), 1);
        due(16, "river(0, 1, 1)", x.river(0, 1, 1), 1);
        due(16, "river(0, 3, 0)", x.river(0, 3, 0), 0);
        due(16, "river(0, 3, 1)", x.river(0, 3, 1), 1);
        due(16, "river(0, 3, 2)", x.river(0, 3, 2), 1);
        due(16, "river(0, 0, 3)", x.river(0, 0, 3), -2);
        due(16, "river(0, 0, -1)", x.river(0, 0, -1), -2);
        due(16, "river(2, 0, 0)", x.river(2, 0, 0), -2);
        due(16, "river(0, 61, 0)", x.river(0, 61, 0), -2);
        String three = "village size 1;village size 1;village size 1;item of 2 standard 0;says 0 0 1;";
        x = Texts.withLand(three + "road 0 1;".repeat(15) + "road 0 1river;".repeat(5) + "road 1 2;".repeat(13)
                + "road 1 2river;".repeat(7));
        due(16, "20 LINES of 40", x.river(0, 0, 0), 5);
        due(16, "all ways", x.river(0, 0, 2), 137846528820L);
        due(16, "ways with 5 at a river or more", x.river(0, 0, 1), 117111324330L);
    }

    private static void telling() {
        SaysBath x = Texts.withLand(CHAIN);
        due(17, "tells(0)", x.tells(0), NONE);
        due(17, "tells(61)", x.tells(61), -2);
        due(17, "tells(-1)", x.tells(-1), -2);
        due(18, "alone(0, 0)", x.alone(0, 0), 1);
        due(18, "alone(3, 0)", x.alone(3, 0), 2);
        due(18, "alone(1, 0)", x.alone(1, 0), NONE);
        due(18, "alone(1, 1)", x.alone(1, 1), NONE);
        due(18, "alone(4, 0)", x.alone(4, 0), -2);
        due(18, "alone(-1, 0)", x.alone(-1, 0), -2);
        due(18, "alone(0, 61)", x.alone(0, 61), -2);
        String three = "village size 1;village size 1;village size 1;";
        String items = "item of 2 standard 0;item of 2 standard 0;item of 2 standard 0;item of 3 standard 0;";
        x = Texts.withLand(three + items + "says 0 0 1;says 1 1 1;says 2 2 1;");
        due(17, "the least bits of two", x.tells(0), 3);
        due(18, "one's own", x.alone(2, 0), 4);
        due(17, "the same behind another question", x.tells(0), 3);
        x = Texts.withLand(three + items + "says 0 0 1;says 1 1 1;says 2 2 1;says 1 3 1;says 2 3 2;");
        due(17, "one is fewer than two", x.tells(0), 8);
        due(18, "the least bits of one", x.alone(2, 0), 4);
        due(18, "the least bits of one", x.alone(0, 0), 1);
        x = Texts.withLand("village size 1;" + items);
        due(17, "one VILLAGE", x.tells(0), 0);
        due(18, "one VILLAGE", x.alone(0, 0), 0);
        x = Texts.withLand("village size 1;village size 1;");
        due(17, "no ITEMS", x.tells(0), NONE);
        due(18, "no ITEMS", x.alone(0, 0), NONE);
        due(17, "no VILLAGES", Texts.withLand(items).tells(0), 0);
        StringBuilder text = new StringBuilder("village size 1;".repeat(11) + "item of 2 standard 0;".repeat(10));
        for (int i = 0; i < 10; i++) {
            text.append("says ").append(i).append(' ').append(i).append(" 1;");
        }
        x = Texts.withLand(text.toString());
        due(17, "all ten", x.tells(0), 1023);
        due(18, "all ten from the eleventh", x.alone(10, 0), 1023);
    }

    private static void hearing() {
        SaysBath x = Texts.withLand("item of 2 standard 0;".repeat(9) + "item of 5 standard 3;");
        due(22, "heard(0)", x.heard(0), NONE);
        due(19, "hear(0, 1, false)", x.hear(0, 1, false), 1);
        due(19, "hear(0, 0, true)", x.hear(0, 0, true), 1);
        due(22, "heard(0)", x.heard(0), 100);
        due(19, "hear(9, 4, true)", x.hear(9, 4, true), 2);
        due(22, "heard(9)", x.heard(9), 104);
        due(19, "hear(9, 4, false)", x.hear(9, 4, false), 2);
        due(22, "heard(9)", x.heard(9), 4);
        due(19, "hear(9, 5, false)", x.hear(9, 5, false), -2);
        due(19, "hear(0, 2, false)", x.hear(0, 2, false), -2);
        due(19, "hear(0, -1, false)", x.hear(0, -1, false), -2);
        due(19, "hear(10, 0, false)", x.hear(10, 0, false), -2);
        due(19, "hear(-1, 0, false)", x.hear(-1, 0, false), -2);
        for (int i = 1; i < 7; i++) {
            due(19, "hear", x.hear(i, 1, false), i + 2);
        }
        due(19, "a ninth", x.hear(7, 1, false), -3);
        due(19, "a ninth that is none", x.hear(7, 2, false), -2);
        due(22, "heard(7)", x.heard(7), NONE);
        due(19, "one of the eight", x.hear(3, 0, false), 8);
        due(22, "heard(3)", x.heard(3), 0);
        due(22, "heard(10)", x.heard(10), -2);
        due(22, "heard(-1)", x.heard(-1), -2);
        due(21, "mute", x.mute(), 8);
        due(21, "mute once more", x.mute(), 0);
        due(22, "heard(0)", x.heard(0), NONE);
        due(19, "hear behind mute", x.hear(7, 1, false), 1);
        due(21, "mute of one", x.mute(), 1);
    }

    private static void hearingRows() {
        SaysBath x = Texts.withLand("item of 2 standard 0;".repeat(10));
        due(20, "nothing in it", x.hears(0), -6);
        due(20, "SLOT 4", x.hears(4), -2);
        due(20, "SLOT -1", x.hears(-1), -2);
        x.row(0, 0, 5);
        x.write(0, 0, 256 + 3);
        x.write(0, 1, 1);
        x.write(0, 2, 9);
        x.write(0, 3, 2);
        x.write(0, 4, 5);
        x.hear(3, 0, true);
        due(20, "one taken, one refused, one left over", x.hears(0), 1);
        due(22, "to no clerk", x.heard(3), 1);
        due(22, "the left over one", x.heard(5), NONE);
        due(22, "the refused one", x.heard(9), NONE);
        x.row(1, 3, 4);
        x.write(1, 0, 1L << 32);
        x.write(1, 2, 1);
        x.write(1, 3, 1L << 32);
        due(20, "numbers beyond an int", x.hears(1), 0);
        x.row(1, 2, 2);
        x.write(1, 0, (1L << 32) + 1);
        due(20, "cut to four bytes", x.hears(1), 1);
        due(22, "heard(1)", x.heard(1), 0);
        x.row(1, 0, 0);
        due(20, "a row of none", x.hears(1), 0);
        x.row(2, 1, 20);
        for (int i = 0; i < 10; i++) {
            x.write(2, 2 * i, 9 - i);
        }
        x.mute();
        due(20, "eight of ten", x.hears(2), 8);
        due(22, "the ninth", x.heard(1), NONE);
        due(20, "those eight again", x.hears(2), 8);
        x.row(3, 0, 4);
        x.write(3, 0, 4);
        x.write(3, 2, 4);
        x.write(3, 3, 1);
        due(20, "one ITEM twice", x.hears(3), 2);
        due(22, "the latter", x.heard(4), 1);
    }

    private static void fitting() {
        SaysBath x = Texts.withLand(CHAIN);
        due(24, "whole of nothing", x.whole(0), 15);
        due(25, "from of nothing", x.from(0), 0);
        due(23, "fits of nothing", x.fits(3, 0), 0);
        x.hear(0, 2, false);
        due(23, "fits(0, 0)", x.fits(0, 0), 1);
        due(23, "fits(1, 0)", x.fits(1, 0), 0);
        due(23, "fits(1, 1)", x.fits(1, 1), 1);
        due(24, "whole(0)", x.whole(0), 1);
        due(24, "whole(1)", x.whole(1), 3);
        due(24, "whole(60)", x.whole(60), 15);
        x.hear(1, 1, false);
        due(23, "fits(3, 0)", x.fits(3, 0), 1);
        due(23, "fits(3, 3)", x.fits(3, 3), 2);
        due(24, "whole(0)", x.whole(0), 0);
        due(24, "whole(3)", x.whole(3), 8);
        due(25, "from(0)", x.from(0), 0);
        due(25, "from(3)", x.from(3), 3);
        x.hear(0, 1, false);
        due(23, "not said anywhere", x.fits(0, 0), 0);
        x.hear(0, 1, true);
        due(23, "the standard to a clerk", x.fits(0, 0), 1);
        due(24, "whole(0)", x.whole(0), 8);
        x.hear(1, 1, true);
        due(23, "not the standard to a clerk", x.fits(0, 0), 1);
        due(23, "said, to a clerk", x.fits(3, 0), 2);
        due(23, "fits(4, 0)", x.fits(4, 0), -2);
        due(23, "fits(-1, 0)", x.fits(-1, 0), -2);
        due(23, "fits(0, 61)", x.fits(0, 61), -2);
        due(24, "whole(61)", x.whole(61), -2);
        due(24, "whole(-1)", x.whole(-1), -2);
        due(25, "from(61)", x.from(61), -2);
        due(25, "from(-1)", x.from(-1), -2);
        due(24, "no VILLAGES", new SaysBath().whole(0), 0);
        due(25, "no VILLAGES", new SaysBath().from(0), NONE);
    }

    private static void asking() {
        SaysBath x = Texts.withLand(CHAIN);
        due(26, "next(0): 3 of 4 for both", x.next(0), 0);
        due(26, "next(1): 2 of 4 for ITEM 0", x.next(1), 0);
        due(26, "next(3): ITEM 0 is one and the same", x.next(3), 1);
        x.hear(0, 2, false);
        due(26, "next(0): one VILLAGE is left", x.next(0), NONE);
        due(26, "next(60)", x.next(60), 1);
        x.hear(1, 0, false);
        due(26, "next(60): all are HEARD", x.next(60), NONE);
        x.hear(0, 1, false);
        due(26, "no VILLAGE is left", x.next(60), NONE);
        due(26, "next(61)", x.next(61), -2);
        due(26, "next(-1)", x.next(-1), -2);
        String four = "village size 1;village size 1;village size 1;village size 1;";
        x = Texts.withLand(four + "item of 2 standard 0;item of 4 standard 0;item of 2 standard 0;item of 4 standard 0;"
                + "says 0 0 1;says 0 1 1;says 1 1 2;says 2 1 3;says 0 2 1;says 1 2 1;says 1 3 1;says 2 3 2;says 3 3 3;");
        due(26, "each its own variant", x.next(0), 1);
        x.hear(1, 1, true);
        due(26, "only the first is left", x.next(0), NONE);
        x.hear(1, 0, true);
        due(26, "the standard to a clerk: all are left", x.next(0), 3);
        x.hear(3, 0, true);
        due(26, "two of two are fewer than three of one", x.next(0), 2);
    }

    private static void pairs() {
        SaysBath x = Texts.withLand(CHAIN);
        due(27, "two of nothing HEARD", x.two(0), 1);
        due(28, "nowhere of nothing HEARD", x.nowhere(0, 0), 0);
        x.hear(0, 2, false);
        x.hear(1, 1, false);
        due(27, "two(0)", x.two(0), 3);
        due(27, "two(3): VILLAGE 3 alone FITS both", x.two(3), 3);
        due(28, "nowhere(0, 0)", x.nowhere(0, 0), 1);
        due(28, "nowhere(0, 1)", x.nowhere(0, 1), 1);
        due(28, "nowhere(3, 0)", x.nowhere(3, 0), 0);
        due(28, "nowhere(3, 1)", x.nowhere(3, 1), NONE);
        x.hear(0, 0, false);
        due(27, "two(0): 1 or 2 with 3, 3 alone", x.two(0), 3);
        due(28, "nowhere(0, 0)", x.nowhere(0, 0), 0);
        due(27, "two(61)", x.two(61), -2);
        due(27, "two(-1)", x.two(-1), -2);
        due(28, "nowhere(61, 0)", x.nowhere(61, 0), -2);
        due(28, "nowhere(0, 2)", x.nowhere(0, 2), -2);
        due(28, "nowhere(0, -1)", x.nowhere(0, -1), -2);
        due(27, "one VILLAGE", Texts.withLand("village size 1;").two(0), NONE);
        String items = "item of 2 standard 0;".repeat(4);
        x = Texts.withLand("village size 1;".repeat(12) + items + "says 10 1 1;says 11 3 1;says 2 0 1;");
        x.hear(1, 1, false);
        x.hear(3, 1, false);
        x.hear(0, 0, false);
        due(27, "100 v + w", x.two(0), 1011);
        due(28, "ITEMS 1 and 3", x.nowhere(0, 1), 103);
        due(28, "nowhere(0, 0)", x.nowhere(0, 0), 1);
        x.hear(0, 1, false);
        due(28, "each with each", x.nowhere(0, 0), 3);
        due(28, "the first", x.nowhere(0, 1), 1);
        due(27, "the least of several", x.two(0), 210);
        x = Texts.withLand(items);
        x.hear(2, 0, true);
        x.hear(3, 0, false);
        due(28, "no VILLAGES", x.nowhere(0, 1), 203);
        due(27, "no VILLAGES", x.two(0), NONE);
    }

    private static void noting() {
        SaysBath x = Texts.withLand(CHAIN);
        due(29, "note(0, 0, 2, 3)", x.note(0, 0, 2, 3), 3);
        due(29, "note(0, 0, 2, 6)", x.note(0, 0, 2, 6), 9);
        due(29, "a tenth", x.note(0, 0, 2, 1), -3);
        due(30, "noted(0, 0, 2)", x.noted(0, 0, 2), 9);
        due(29, "another variant", x.note(0, 0, 1, 9), 9);
        due(29, "n of 0", x.note(0, 0, 0, 0), -2);
        due(29, "n of 10", x.note(0, 0, 0, 10), -2);
        due(29, "n of 10 where it is full", x.note(0, 0, 2, 10), -2);
        due(29, "n below 0", x.note(0, 0, 2, -1), -2);
        due(29, "variant 3", x.note(0, 0, 3, 1), -2);
        due(29, "variant -1", x.note(0, 0, -1, 1), -2);
        due(29, "variant 2 of 2", x.note(0, 1, 2, 1), -2);
        due(29, "VILLAGE 4", x.note(4, 0, 0, 1), -2);
        due(29, "ITEM 2", x.note(0, 2, 0, 1), -2);
        due(30, "noted(0, 0, 0)", x.noted(0, 0, 0), 0);
        due(30, "noted(0, 0, 3)", x.noted(0, 0, 3), NONE);
        due(30, "noted(4, 0, 0)", x.noted(4, 0, 0), NONE);
        due(30, "noted(0, 2, 0)", x.noted(0, 2, 0), NONE);
        due(30, "noted(-1, 0, 0)", x.noted(-1, 0, 0), NONE);
        due(31, "the least of two", x.mostly(0, 0), 1);
        due(31, "nothing is NOTED", x.mostly(0, 1), NONE);
        x.note(1, 0, 0, 1);
        x.note(1, 0, 2, 2);
        due(31, "mostly(1, 0)", x.mostly(1, 0), 2);
        due(31, "mostly(4, 0)", x.mostly(4, 0), -2);
        due(31, "mostly(0, 2)", x.mostly(0, 2), -2);
        due(32, "off(0, 0)", x.off(0, 0), 3);
        due(32, "off(0, 1)", x.off(0, 1), 1);
        due(32, "off(1, 0)", x.off(1, 0), 0);
        x.note(3, 1, 0, 1);
        due(32, "off(1, 60)", x.off(1, 60), 8);
        due(32, "off(2, 0)", x.off(2, 0), -2);
        due(32, "off(0, 61)", x.off(0, 61), -2);
        due(40, "count(7)", x.count(7), 22);
    }

    private static void odds() {
        SaysBath x = Texts.withLand(CHAIN);
        due(33, "nothing is HEARD", x.odds(2, false), 1);
        due(33, "nothing is HEARD", x.odds(2, true), 1);
        due(34, "nothing is HEARD", x.likely(), 0);
        due(35, "nothing is HEARD", x.ahead(3), 0);
        x.hear(0, 2, true);
        due(33, "nothing is NOTED", x.odds(1, false), 1);
        due(33, "nothing is NOTED", x.odds(1, true), 3);
        x.note(1, 0, 2, 2);
        x.note(1, 0, 0, 1);
        due(33, "3 by 6", x.odds(1, false), 1);
        due(33, "3 by 6", x.odds(1, true), 2);
        x.hear(1, 0, false);
        x.note(1, 1, 1, 1);
        due(33, "1 by 2 times 1 by 3", x.odds(1, false), 1);
        due(33, "1 by 2 times 1 by 3", x.odds(1, true), 6);
        due(33, "1 by 3 times 1 by 2", x.odds(0, true), 6);
        due(34, "the first of several", x.likely(), 0);
        due(35, "ahead(1)", x.ahead(1), 0);
        x.note(2, 1, 0, 2);
        due(33, "1 by 3 times 3 by 4", x.odds(2, true), 4);
        due(34, "likely", x.likely(), 2);
        due(35, "ahead(0)", x.ahead(0), 1);
        due(35, "ahead(2)", x.ahead(2), 0);
        x.note(3, 0, 1, 9);
        due(33, "1 by 12 times 1 by 2", x.odds(3, true), 24);
        due(35, "ahead(3)", x.ahead(3), 3);
        due(33, "odds(4, false)", x.odds(4, false), NONE);
        due(33, "odds(-1, true)", x.odds(-1, true), NONE);
        due(35, "ahead(4)", x.ahead(4), -2);
        due(35, "ahead(-1)", x.ahead(-1), -2);
        due(34, "no VILLAGES", new SaysBath().likely(), NONE);
    }

    /** ODDS whose products across are beyond a long. */
    private static void farOdds() {
        SaysBath x = Texts.withLand("village size 1;".repeat(3) + "item of 5 standard 0;".repeat(8));
        for (int i = 0; i < 8; i++) {
            x.hear(i, 0, false);
            for (int variant = 1; variant < 5; variant++) {
                x.note(0, i, variant, 9);
                x.note(1, i, variant, i == 7 && variant == 4 ? 8 : 9);
            }
            x.note(2, i, 0, 9);
        }
        due(33, "1 by 41 to the eighth", x.odds(0, true), 7984925229121L);
        due(33, "1 by 41 to the seventh, 40", x.odds(1, true), 7790170955240L);
        due(33, "10 by 14 to the eighth", x.odds(2, false), 390625L);
        due(33, "10 by 14 to the eighth", x.odds(2, true), 5764801L);
        due(34, "likely", x.likely(), 2);
        due(35, "ahead(0)", x.ahead(0), 2);
        due(35, "ahead(1)", x.ahead(1), 1);
        for (int i = 0; i < 8; i++) {
            x.note(0, i, 0, 8);
            x.note(1, i, 0, 8);
            for (int variant = 1; variant < 5; variant++) {
                x.note(2, i, variant, 9);
            }
        }
        due(33, "9 by 49 to the eighth", x.odds(0, true), 33232930569601L);
        due(33, "1 by 5 to the eighth", x.odds(2, true), 390625L);
        due(34, "10 by 50 is above 9 by 49", x.likely(), 2);
        due(35, "ahead(0)", x.ahead(0), 2);
        due(35, "ahead(1)", x.ahead(1), 1);
        due(35, "ahead(2)", x.ahead(2), 0);
    }

    private static void leaning() {
        SaysBath x = Texts.withLand(CHAIN);
        due(36, "by nobody", x.walk(0, 0), NONE);
        due(36, "by 0", x.walk(0, 5), 0);
        due(36, "by 5", x.walk(0, -1), 5);
        due(36, "by nobody", x.walk(0, 0), NONE);
        due(36, "ASKER 6", x.walk(0, 6), -2);
        due(36, "ASKER -2", x.walk(0, -2), -2);
        due(36, "VILLAGE 4", x.walk(4, 0), -2);
        due(36, "VILLAGE -1", x.walk(-1, 0), -2);
        due(36, "it stays", x.village(0, 2), 0);
        x.walk(1, 1);
        due(37, "nothing is NOTED", x.leans(0, 0), 0);
        x.note(0, 0, 2, 1);
        due(37, "one is NOTED", x.leans(0, 0), 0);
        x.note(1, 0, 1, 1);
        due(37, "leans(0, 0)", x.leans(0, 0), 1);
        due(37, "leans(1, 0)", x.leans(1, 0), 1);
        due(37, "another ITEM", x.leans(0, 1), 0);
        due(37, "ASKER 2", x.leans(2, 0), 0);
        due(38, "lean(0, 0)", x.lean(0, 0), 2);
        due(38, "lean(1, 0)", x.lean(1, 0), 1);
        due(38, "does not LEAN", x.lean(2, 0), NONE);
        for (int a : new int[] {-1, 6, Integer.MAX_VALUE}) {
            due(37, "leans(" + a + ", 0)", x.leans(a, 0), -2);
            due(38, "lean(" + a + ", 0)", x.lean(a, 0), -2);
        }
        due(37, "ITEM 2", x.leans(0, 2), -2);
        due(38, "ITEM -1", x.lean(0, -1), -2);
        x.walk(2, 0);
        x.note(2, 0, 1, 1);
        due(37, "a ROAD between such as say the same", x.leans(0, 0), 0);
        x.note(2, 0, 0, 1);
        due(37, "mostly the least of two", x.leans(0, 0), 1);
        due(38, "2 and 0, one each", x.lean(0, 0), 0);
        x.walk(3, 0);
        due(37, "not NOTED", x.leans(0, 0), 1);
        x.note(3, 0, 0, 3);
        due(38, "0 twice, 2 once", x.lean(0, 0), 0);
        x.note(3, 0, 2, 4);
        due(37, "two that a walked say otherwise", x.leans(0, 0), 0);
        due(38, "so it does not", x.lean(0, 0), NONE);
    }

    private static void leaningBounds() {
        SaysBath x = Texts.withLand("village size 1;".repeat(4) + "road 0 1;road 1 2;road 2 3;item of 3 standard 0;");
        x.note(0, 0, 2, 1);
        x.note(1, 0, 1, 1);
        x.note(2, 0, 0, 1);
        x.walk(0, 0);
        x.walk(1, 1);
        due(37, "nobody walked 2", x.leans(0, 0), 1);
        x.walk(2, 3);
        due(37, "two others say otherwise", x.leans(0, 0), 0);
        due(37, "both ROADS of ASKER 1 lead to others", x.leans(1, 0), 1);
        x.walk(2, 1);
        due(37, "two that another walked say otherwise", x.leans(0, 0), 0);
        x.walk(2, 0);
        due(37, "both ROADS say otherwise", x.leans(0, 0), 1);
        due(38, "of 2 and 0 the least", x.lean(0, 0), 0);
        x.walk(3, 0);
        x.note(3, 0, 0, 1);
        due(37, "two that a walked say the same", x.leans(0, 0), 1);
        x.note(0, 0, 0, 9);
        due(37, "leans(0, 0)", x.leans(0, 0), 1);
        due(38, "lean(0, 0)", x.lean(0, 0), 0);
        x.walk(1, 0);
        due(37, "no other ASKER", x.leans(0, 0), 0);
    }

    private static void counting() {
        SaysBath x = Texts.withLand(CHAIN + "road 1 0;");
        due(39, "size of 0", x.village(0, 0), 10);
        due(39, "size of 3", x.village(3, 0), 5);
        due(39, "ROADS of 0", x.village(0, 1), 2);
        due(39, "ROADS of 1", x.village(1, 1), 3);
        due(39, "ROADS of 3", x.village(3, 1), 1);
        due(39, "who walked 3", x.village(3, 2), NONE);
        x.walk(3, 4);
        due(39, "who walked 3", x.village(3, 2), 4);
        due(39, "what 3", x.village(0, 3), NOTHING);
        due(39, "what -1", x.village(0, -1), NOTHING);
        due(39, "VILLAGE 4", x.village(4, 0), NOTHING);
        due(39, "VILLAGE -1", x.village(-1, 2), NOTHING);
        int[] counts = {13, 4, 4, 2, 1, 20, 1, 5, 2};
        x.feed(1, 2, 3, 4, 5);
        x.hear(1, 0, true);
        x.note(0, 0, 0, 3);
        x.note(2, 1, 1, 2);
        x.row(3, 0, 0);
        x.row(1, 3, 60);
        for (int what = 0; what < counts.length; what++) {
            due(40, "count(" + what + ")", x.count(what), counts[what]);
        }
        due(40, "count(9)", x.count(9), NONE);
        due(40, "count(-1)", x.count(-1), NONE);
    }

    private static void images() {
        SaysBath x = Texts.withLand(CHAIN);
        due(42, "nothing in it", x.back(2), -6);
        x.hear(0, 2, true);
        x.note(1, 1, 1, 4);
        x.walk(2, 3);
        due(41, "keep(2)", x.keep(2), 0);
        due(41, "keep(3)", x.keep(3), -2);
        due(41, "keep(-1)", x.keep(-1), -2);
        due(42, "back(3)", x.back(3), -2);
        due(42, "back(-1)", x.back(-1), -2);
        due(42, "back(1)", x.back(1), -6);
        x.mute();
        x.note(1, 1, 1, 5);
        x.walk(2, 1);
        due(41, "keep(0)", x.keep(0), 0);
        Texts.put(x, "village size 1;item of 2 standard 1;says 0 0 1;");
        x.land();
        due(42, "another map", x.says(0, 0, 60), 1);
        x.row(0, 0, 1);
        x.feed(0, 0, 0, 0, 0);
        due(42, "back(2)", x.back(2), 0);
        due(42, "LINES", x.count(0), 12);
        due(42, "VILLAGES", x.count(1), 4);
        due(42, "ROADS", x.count(2), 3);
        due(42, "LAWS", x.count(4), 1);
        due(42, "the map", x.says(3, 0, 3), 2);
        due(42, "the map from its first YEAR", x.says(0, 0, 60), 2);
        due(42, "the map of ITEM 1", x.says(3, 1, 60), 1);
        due(42, "size", x.village(2, 0), 30);
        due(42, "standard", x.fits(0, 0), 1);
        due(42, "at a river", x.river(0, 1, 0), 1);
        due(42, "heard", x.heard(0), 102);
        due(42, "noted", x.noted(1, 1, 1), 4);
        due(42, "NOTED", x.count(7), 4);
        due(42, "who walked", x.village(2, 2), 3);
        due(42, "the TAPE is no part of it", x.count(5), 20);
        due(42, "the SLOTS are no part of it", x.count(8), 1);
        x.walk(2, 5);
        x.note(0, 0, 0, 1);
        x.hear(1, 1, false);
        due(42, "back(2) once more", x.back(2), 0);
        due(42, "who walked", x.village(2, 2), 3);
        due(42, "NOTED", x.count(7), 4);
        due(42, "HEARD", x.count(6), 1);
        due(42, "back(0)", x.back(0), 0);
        due(42, "heard", x.heard(0), NONE);
        due(42, "noted", x.noted(1, 1, 1), 9);
        due(42, "who walked", x.village(2, 2), 1);
        x.end(0);
        x.land();
        due(41, "keep(0) of nothing", x.keep(0), 0);
        x.back(2);
        due(42, "back(0) to nothing", x.back(0), 0);
        due(42, "VILLAGES", x.count(1), 0);
        due(42, "nothing is no fault", new SaysBath().back(0), -6);
        SaysBath fresh = new SaysBath();
        fresh.keep(1);
        Texts.put(fresh, CHAIN);
        fresh.land();
        due(42, "back to a new object's", fresh.back(1), 0);
        due(42, "VILLAGES", fresh.count(1), 0);
        due(42, "ITEMS", fresh.count(3), 0);
        due(42, "says", fresh.says(0, 0, 0), NONE);
    }

    /** LAWS of an IMAGE work as they did, whatever LAWS were read since. */
    private static void lawImages() {
        String two = "village size 9;village size 4;road 0 1;road 1 0;item of 3 standard 2;item of 3 standard 2;";
        SaysBath x = Texts.withLand(two + "says 1 1 1;law 1 1 to 2 if year more 3;"
                + "law 1 0 to 2 if mass 1 times 2 plus 1 minus size same 0;law 0 0 to 1 if 1 less 0;");
        int[] before = {x.turned(1, 1, 4), x.turned(0, 1, 0), x.turned(0, 0, 0), x.still(1)};
        due(7, "the first LAW", before[0], 0);
        due(7, "4 times 2 plus 1 minus 9", before[1], 1);
        due(7, "1 less 0", before[2], NONE);
        due(15, "still", before[3], 5);
        x.keep(1);
        Texts.put(x, "village size 1;item of 5 standard 0;law 0 4 to 3 if 1 plus 2 times 3 minus near 4 less mass 3;"
                + "law 0 0 to 4 if 5 times 5 plus 5 times 5 more size;law 0 4 to 0 if year same 9;");
        x.land();
        due(6, "another LAND", x.says(0, 0, 60), 4);
        x.back(1);
        due(42, "the first LAW", x.turned(1, 1, 4), before[0]);
        due(42, "its second", x.turned(0, 1, 0), before[1]);
        due(42, "its third", x.turned(0, 0, 0), before[2]);
        due(42, "still", x.still(1), before[3]);
        due(42, "LAWS", x.count(4), 3);
    }

    /** As much of all as a LAND may have, to the last byte but few. */
    private static void fullLand() {
        SaysBath x = Texts.withLand("village size1;".repeat(24) + "road8 9;".repeat(40)
                + "item of5standard4;".repeat(10) + "law9 0to4if1more0;".repeat(20));
        int[] counts = {94, 24, 40, 10, 20};
        for (int what = 0; what < 5; what++) {
            due(40, "count(" + what + ")", x.count(what), counts[what]);
        }
        due(6, "the last of all", x.says(23, 9, 60), 4);
        due(7, "the last of all", x.turned(23, 9, 0), 0);
        due(14, "all moved", x.moved(9, 0, 60), 0xffffff);
        due(15, "still", x.still(9), 1);
        due(8, "lines", x.lines(9, 60), 0);
        due(9, "bundle", x.bundle(39, 60), 0);
        due(10, "thick", x.thick(60), 0);
        due(11, "crossed", x.crossed(0, 60), 40);
        due(12, "areas", x.areas(11, 60), 23);
        due(13, "area", x.area(23, 1, 60), 23);
        due(16, "river", x.river(9, 60, 1), 1);
        due(17, "tells", x.tells(60), NONE);
        due(18, "alone", x.alone(23, 60), NONE);
        for (int i = 2; i < 10; i++) {
            due(19, "hear", x.hear(i, 4, i < 9), i - 1);
        }
        due(23, "fits", x.fits(23, 60), 8);
        due(24, "whole", x.whole(60), 0xffffff);
        due(24, "whole", x.whole(0), 0);
        due(25, "from", x.from(60), 0);
        due(26, "next", x.next(60), NONE);
        due(27, "two", x.two(60), 1);
        due(28, "nowhere", x.nowhere(0, 0), 7);
        due(28, "nowhere", x.nowhere(0, 1), 209);
        for (int v = 0; v < 24; v++) {
            x.walk(v, v % 6);
        }
        for (int v : new int[] {8, 9, 23}) {
            for (int i = 2; i < 10; i++) {
                for (int variant = 0; variant < 5; variant++) {
                    x.note(v, i, variant, 9);
                }
            }
        }
        due(40, "NOTED", x.count(7), 1080);
        due(31, "mostly", x.mostly(23, 9), 0);
        due(32, "off", x.off(9, 60), 0x800300);
        due(33, "odds", x.odds(23, true), 390625);
        due(34, "likely", x.likely(), 0);
        due(35, "ahead", x.ahead(23), 0);
        due(37, "leans", x.leans(2, 9), 0);
        due(38, "lean", x.lean(2, 9), NONE);
        due(39, "ROADS", x.village(9, 1), 40);
        due(39, "who walked", x.village(23, 2), 5);
    }

    private static void rows() {
        SaysBath x = Texts.withLand("item of 5 standard 0;".repeat(10));
        due(43, "row(4, 0, 1)", x.row(4, 0, 1), -2);
        due(43, "row(-1, 0, 1)", x.row(-1, 0, 1), -2);
        due(43, "row(0, 4, 1)", x.row(0, 4, 1), -2);
        due(43, "row(0, -1, 1)", x.row(0, -1, 1), -2);
        due(43, "row(0, 0, 61)", x.row(0, 0, 61), -2);
        due(43, "row(0, 0, -1)", x.row(0, 0, -1), -3);
        due(43, "row(4, 0, -1)", x.row(4, 0, -1), -2);
        due(43, "row(0, 4, -1)", x.row(0, 4, -1), -2);
        due(43, "SLOTS with a row", x.count(8), 0);
        due(44, "write to nothing", x.write(0, 0, 1), -6);
        due(44, "write(4, 0, 1)", x.write(4, 0, 1), -2);
        due(44, "write(-1, 0, 1)", x.write(-1, 0, 1), -2);
        due(43, "row(0, 0, 60)", x.row(0, 0, 60), 0);
        due(44, "write(0, 59, 1)", x.write(0, 59, 1), 0);
        due(44, "write(0, 60, 1)", x.write(0, 60, 1), -7);
        due(44, "write(0, -1, 1)", x.write(0, -1, 1), -7);
        due(43, "row(0, 0, 2)", x.row(0, 0, 2), 0);
        x.write(0, 0, 7);
        x.write(0, 1, 3);
        due(43, "row(0, 0, -5)", x.row(0, 0, -5), -3);
        due(20, "the SLOT stays", x.hears(0), 1);
        due(22, "heard(7)", x.heard(7), 3);
        due(43, "row(0, 1, 2)", x.row(0, 1, 2), 0);
        due(20, "all 0", x.hears(0), 1);
        due(22, "heard(0)", x.heard(0), 0);
        due(43, "row(0, 0, 0)", x.row(0, 0, 0), 0);
        due(44, "no number there", x.write(0, 0, 1), -7);
        long[] overflow = {1L << 8, 1L << 16, 1L << 32, 0};
        for (int width = 0; width < 4; width++) {
            x.row(1, width, 2);
            x.write(1, 0, overflow[width] + width + 1);
            x.write(1, 1, 4);
            due(44, "cut to WIDTH " + width, x.hears(1), 1);
            due(22, "heard", x.heard(width + 1), 4);
            x.row(1, width, 2);
            x.write(1, 0, 255);
            due(44, "255 is no ITEM in WIDTH " + width, x.hears(1), 0);
        }
    }

    private static void pasting() {
        SaysBath x = Texts.withLand("item of 5 standard 0;".repeat(10));
        x.row(0, 0, 6);
        due(45, "SLOT 4", x.paste(4, 0, 0, 0, 1), -2);
        due(45, "to SLOT -1", x.paste(0, 0, -1, 0, 1), -2);
        due(45, "to nothing", x.paste(0, 0, 1, 0, 1), -6);
        due(45, "from nothing", x.paste(1, 0, 0, 0, 1), -6);
        x.row(1, 1, 6);
        due(45, "not of one WIDTH", x.paste(0, 0, 1, 0, 1), -8);
        due(45, "not of one WIDTH, and beyond", x.paste(0, 7, 1, -1, 1), -8);
        x.row(1, 0, 4);
        due(45, "beyond the first", x.paste(0, 4, 1, 0, 3), -7);
        due(45, "beyond the second", x.paste(0, 0, 1, 2, 3), -7);
        due(45, "a place below 0", x.paste(0, -1, 1, 0, 1), -7);
        due(45, "a place below 0", x.paste(0, 0, 1, -1, 1), -7);
        due(45, "n below 0", x.paste(0, 1, 1, 1, -1), -7);
        due(45, "far", x.paste(0, Integer.MAX_VALUE, 1, 0, Integer.MAX_VALUE), -7);
        due(45, "far", x.paste(0, 1, 1, 1, Integer.MAX_VALUE), -7);
        due(45, "far", x.paste(0, 0, 1, Integer.MIN_VALUE, 1), -7);
        due(45, "none at the end", x.paste(0, 6, 1, 4, 0), 0);
        for (int i = 0; i < 6; i++) {
            x.write(0, i, i == 1 ? 3 : i + 1);
        }
        due(45, "1 3 3 4 5 6, the third on", x.paste(0, 2, 1, 1, 3), 0);
        due(45, "0 3 4 5: ITEM 0 as 3; no variant 5", x.hears(1), 1);
        due(22, "heard(0)", x.heard(0), 3);
        x.mute();
        due(45, "into its own, ahead", x.paste(0, 0, 0, 1, 5), 0);
        due(45, "1 1 3 3 4 5", x.hears(0), 2);
        due(22, "heard(1)", x.heard(1), 1);
        due(22, "heard(3)", x.heard(3), 3);
        x.mute();
        due(45, "into its own, back", x.paste(0, 1, 0, 0, 5), 0);
        due(45, "1 3 3 4 5 5", x.hears(0), 2);
        due(22, "heard(1)", x.heard(1), 3);
        due(22, "heard(3)", x.heard(3), 4);
        x.mute();
        due(45, "beyond by one", x.paste(0, 0, 0, 1, 6), -7);
        due(45, "and nothing happens", x.hears(0), 2);
        due(22, "heard(1)", x.heard(1), 3);
    }
}
