/** Terms I and promises 1 to 5 at their bounds: what a LAND may be, its FAULTS with their places, the TAPE. */
final class LandBounds {
    private static final int NONE = -1;
    private static final int NOTHING = -2000000000;
    private static final int TERMS = Sentences.TERMS;
    private static final String VILLAGE = "village size 1;";
    private static final String ITEM = "item of 2 standard 0;";
    /** Two VILLAGES and an ITEM of three variants. */
    private static final String GROUND = "village size 1;village size 1;item of 3 standard 0;";
    /** Each LINE with every word that it may have; a number is told with its least and most behind it. */
    private static final String[] LINES = {
        "village size 5:1:99 ;", "road 0:0:1 1:0:1 ;", "road 1:0:1 0:0:1 river ;", "item of 3:2:5 standard 0:0:2 ;",
        "says 0:0:1 0:0:0 2:0:2 ;",
        "law 0:0:0 0:0:2 to 1:0:2 if near 1:0:2 times 2:0:999 plus mass 0:0:2 minus size more year plus 3:0:999 ;",
    };

    private final Sentences doc;

    private LandBounds(Sentences doc) {
        this.doc = doc;
    }

    static void all(Sentences doc) {
        LandBounds bounds = new LandBounds(doc);
        bounds.newObject();
        bounds.feed();
        bounds.end();
        bounds.land();
        bounds.fault();
        bounds.lines();
        bounds.sums();
        bounds.howMany();
        bounds.toldAhead();
        bounds.numbers();
        bounds.variants();
        bounds.toldOnce();
        bounds.tokens();
        bounds.faultPlaces();
        bounds.faultOne();
        bounds.faultTwo();
        bounds.faultThree();
    }

    private void good(String text, int lines) {
        SaysBath x = new SaysBath();
        Texts.put(x, text);
        doc.due("land() of " + text, x.land(), lines);
        doc.due("fault(0) of " + text, x.fault(0), 0);
        doc.due("fault(1) of " + text, x.fault(1), NONE);
    }

    /** A FAULT at the first byte of the second text. */
    private void bad(int fault, String before, String after) {
        SaysBath x = new SaysBath();
        Texts.put(x, before + after);
        doc.due("land() of " + before + after, x.land(), -4);
        doc.due("fault(0) of " + before + after, x.fault(0), fault);
        doc.due("fault(1) of " + before + after, x.fault(1), before.length());
    }

    private void newObject() {
        doc.sentence(1, "No LAND (no VILLAGES, ROADS, ITEMS, LAWS), nothing heard, nothing noted.");
        SaysBath x = new SaysBath();
        for (int what = 0; what <= 8; what++) {
            doc.due("count(" + what + ")", x.count(what), 0);
        }
        doc.due("village(0, 0)", x.village(0, 0), NOTHING);
        doc.due("bundle(0, 0)", x.bundle(0, 0), -2);
        doc.due("still(0)", x.still(0), -2);
        doc.due("says(0, 0, 0)", x.says(0, 0, 0), NONE);
        doc.due("hear(0, 0, true)", x.hear(0, 0, true), -2);
        doc.due("heard(0)", x.heard(0), -2);
        doc.due("note(0, 0, 0, 1)", x.note(0, 0, 0, 1), -2);
        doc.due("noted(0, 0, 0)", x.noted(0, 0, 0), NONE);
        doc.due("mute()", x.mute(), 0);
        for (int k = 0; k < 3; k++) {
            doc.due("back(" + k + ")", x.back(k), -6);
        }
        for (int slot = 0; slot < 4; slot++) {
            doc.due("hears(" + slot + ")", x.hears(slot), -6);
        }
    }

    private void feed() {
        doc.sentence(2, "Twenty bytes come behind the TAPE, four of each number, the highest first: how many it has;");
        SaysBath x = new SaysBath();
        doc.due("the first feed", x.feed(0x76696c6c, 0x61676520, 0x73697a65, 0x20363b76, 0x696c6c61), 20);
        doc.due("the second", x.feed(0x67652073, 0x697a6520, 0x39383b20, 0x0a202020, 0x20202020), 40);
        doc.due("bytes", x.count(5), 40);
        doc.due("land()", x.land(), 2);
        doc.due("size of 0", x.village(0, 0), 6);
        doc.due("size of 1", x.village(1, 0), 98);
        for (int bytes = 20; bytes <= 1200; bytes += 20) {
            doc.due("feed", x.feed(-1, -1, -1, -1, -1), bytes);
        }
        doc.due("bytes of the full TAPE", x.count(5), 1200);
        for (int shift = 0; shift < 20; shift++) {
            int[] n = {0x20202020, 0x20202020, 0x20202020, 0x20202020, 0x20202020};
            n[shift / 4] |= 0x80 << 24 - 8 * (shift % 4);
            x = new SaysBath();
            x.feed(n[0], n[1], n[2], n[3], n[4]);
            x.land();
            doc.due("place of byte " + shift, x.fault(1), shift);
        }

        doc.sentence(2, "NONE, and none come, if it would have more than 1,200.");
        doc.due("feed to 1,200", Busy.withTape(1180).feed(1, 2, 3, 4, 5), 1200);
        for (int bytes : new int[] {1181, 1190, 1199, 1200}) {
            doc.refused("feed at " + bytes, () -> Busy.withTape(bytes), x2 -> x2.feed(1, 2, 3, 4, 5), NONE);
        }
        x = Busy.withTape(1200);
        x.feed(1, 2, 3, 4, 5);
        doc.due("bytes", x.count(5), 1200);
        x.end(1180);
        doc.due("feed once there is room", x.feed(1, 2, 3, 4, 5), 1200);
    }

    private void end() {
        doc.sentence(3, "The TAPE has its first n bytes alone: n;");
        SaysBath x = new SaysBath();
        Texts.put(x, VILLAGE + VILLAGE + "x");
        doc.due("end(31), all of them", x.end(31), 31);
        doc.due("bytes", x.count(5), 31);
        doc.due("end(30)", x.end(30), 30);
        doc.due("bytes", x.count(5), 30);
        doc.due("end(15)", x.end(15), 15);
        Texts.put(x, ITEM);
        doc.due("bytes behind the first 15", x.count(5), 36);
        doc.due("land()", x.land(), 2);
        doc.due("VILLAGES", x.count(1), 1);
        doc.due("ITEMS", x.count(3), 1);
        Texts.put(x, VILLAGE);
        doc.due("end(0)", x.end(0), 0);
        doc.due("bytes", x.count(5), 0);
        doc.due("land()", x.land(), 0);
        doc.due("end(0) of nothing", x.end(0), 0);
        doc.due("end(1200)", Busy.withTape(1200).end(1200), 1200);

        doc.sentence(3, "NONE, and nothing happens, if it has not so many, or n is below 0.");
        doc.outside("end", NONE, new int[] {0}, new int[] {Busy.WAITING.length()}, (b, a) -> b.end(a[0]));
        doc.due("end(1) of an empty TAPE", new SaysBath().end(1), NONE);
        for (int n : new int[] {1201, -1}) {
            doc.refused("end(" + n + ") of a full TAPE", () -> Busy.withTape(1200), b -> b.end(n), NONE);
        }
        x = new SaysBath();
        Texts.put(x, VILLAGE + VILLAGE);
        x.end(15);
        doc.due("what was cut off does not come back", x.end(16), NONE);
    }

    private void land() {
        doc.sentence(4, "The TAPE (empty then) is the LAND (in place of another): how many LINES;");
        SaysBath x = Busy.make();
        doc.due("land()", x.land(), 10);
        doc.due("bytes", x.count(5), 0);
        int[] counts = {10, 0, 0, 10, 0};
        for (int what = 0; what < counts.length; what++) {
            doc.due("count(" + what + ")", x.count(what), counts[what]);
        }
        doc.due("no VILLAGE of the other", x.village(0, 0), NOTHING);
        doc.due("no ROAD of the other", x.bundle(0, 0), -2);
        doc.due("land() of nothing", x.land(), 0);
        doc.due("ITEMS", x.count(3), 0);
        x = Texts.withLand(VILLAGE + "item of 3 standard 0;law 0 0 to 1 if year same 4;law 0 1 to 2 if year same 40;");
        doc.due("still(0)", x.still(0), 41);
        Texts.put(x, VILLAGE + "item of 3 standard 0;law 0 0 to 1 if year same 4;");
        x.land();
        doc.due("still(0) of the second LAND", x.still(0), 5);
        Texts.put(x, VILLAGE + "item of 3 standard 0;");
        x.land();
        doc.due("still(0) of the third, without LAWS", x.still(0), 0);
        doc.due("turned(0, 0, 4) of the third", x.turned(0, 0, 4), NONE);
        good(" ".repeat(1185) + VILLAGE, 1);
        bad(1, " ".repeat(1186) + "village size 1", "");

        doc.sentence(4, "nothing is heard, noted, nobody walked then.");
        x = Busy.make();
        x.end(0);
        Texts.put(x, Busy.LAND);
        doc.due("land()", x.land(), 10);
        for (int what = 6; what <= 7; what++) {
            doc.due("count(" + what + ")", x.count(what), 0);
        }
        for (int v = 0; v < Busy.VILLAGES; v++) {
            doc.due("who walked " + v, x.village(v, 2), NONE);
            doc.due("mostly(" + v + ", 0)", x.mostly(v, 0), NONE);
            doc.due("mostly(" + v + ", 1)", x.mostly(v, 1), NONE);
        }
        doc.due("heard(0)", x.heard(0), NONE);
        doc.due("heard(1)", x.heard(1), NONE);
        doc.due("SLOTS", x.count(8), 3);
        SaysBath full = Texts.withLand(Busy.FULL);
        for (int end = 0; end < 2; end++) {
            full.note(23 * end, 9 * end, 4 * end, 9);
            full.hear(9 * end, 4 * end, true);
            full.walk(23 * end, 5 * end);
        }
        Texts.put(full, Busy.FULL);
        doc.due("land() of a full LAND", full.land(), 85);
        for (int end = 0; end < 2; end++) {
            doc.due("noted", full.noted(23 * end, 9 * end, 4 * end), 0);
            doc.due("heard", full.heard(9 * end), NONE);
            doc.due("who walked", full.village(23 * end, 2), NONE);
        }
        doc.due("IMAGE 0", x.back(0), 0);
        doc.due("who walked 1 in IMAGE 0", x.village(1, 2), 4);

        doc.sentence(4, "-4: a FAULT (all stays).");
        String[] texts = {"village", VILLAGE + VILLAGE + ITEM + "law 0 0 to 1 if near 2 more 0;",
            VILLAGE.repeat(25), "item of 5 standard 0;says 0 0 0;", ";"};
        for (String text : texts) {
            x = Busy.make();
            x.end(0);
            Texts.put(x, text);
            doc.due("land() of " + text, x.land(), -4);
            doc.due("LINES", x.count(0), 10);
            Busy.refuseLand(x);
            doc.alike("behind land() of " + text, Busy.look(x), Busy.look(Busy.make()));
        }
    }

    private void fault() {
        doc.sentence(5, "Of the latest land(), what 0: its FAULT, 0 without, 1: its place (NONE without).");
        SaysBath x = Busy.make();
        doc.due("fault(0)", x.fault(0), 2);
        doc.due("fault(1)", x.fault(1), 13);
        x.back(0);
        x.keep(1);
        doc.due("fault(0) behind back()", x.fault(0), 2);
        doc.due("land() without a FAULT", x.land(), 10);
        doc.due("fault(0)", x.fault(0), 0);
        doc.due("fault(1)", x.fault(1), NONE);
        Texts.put(x, ";");
        doc.due("land() with one", x.land(), -4);
        doc.due("fault(0)", x.fault(0), 1);
        doc.due("fault(1) is its first byte", x.fault(1), 0);

        doc.sentence(5, "NONE for another what, and ahead of any (what 1).");
        doc.outside("fault", NONE, new int[] {0}, new int[] {1}, (b, a) -> b.fault(a[0]));
        doc.due("fault(0) ahead of any", new SaysBath().fault(0), 0);
        doc.due("fault(1) ahead of any", new SaysBath().fault(1), NONE);
        doc.due("fault(2) ahead of any", new SaysBath().fault(2), NONE);
    }

    private void lines() {
        doc.sentence(TERMS, "I. LAND: {LINE}.");
        good("", 0);
        good(" \n", 0);
        good(VILLAGE, 1);
        good(ITEM + VILLAGE + "says 0 0 1;" + VILLAGE + "road 1 0;" + ITEM + "law 1 0 to 1 if 1 more 0;says 1 1 1;", 8);

        doc.sentence(TERMS, "LINE: village size N ; | road V V [river] ; | item of N standard A ; | says V I A ; | law I A "
                + "to A if SUM SIGN SUM ;.");
        for (String line : LINES) {
            good(GROUND + plain(line), 4);
        }
        SaysBath x = Texts.withLand(GROUND + "road 0 1 river;road 1 0;says 1 0 2;");
        doc.due("ROADS at a river that are LINES", x.river(0, 0, 0), 1);

        doc.sentence(TERMS, "SIGN: more | less | same.");
        for (String sign : new String[] {"more", "less", "same"}) {
            good(GROUND + "law 0 0 to 1 if 1 " + sign + " 2;", 4);
        }
        bad(1, GROUND + "law 0 0 to 1 if 1 ", "above 2;");
        bad(1, GROUND + "law 0 0 to 1 if 1 plus", ";");
        bad(1, GROUND + "law 0 0 to 1 if 1 more 2 ", "less 3;");
    }

    private void sums() {
        String law = GROUND + "law 0 0 to 1 if ";
        doc.sentence(TERMS, "SUM: TERM {plus TERM | minus TERM}. TERM: PART {times PART}.");
        good(law + "1 more 2 plus 3 minus 4 times 5 times 6 plus 7;", 4);
        good(law + "1" + " plus 2".repeat(130) + " less 3;", 4);
        good(law + "1 same 2" + " times 3".repeat(130) + ";", 4);
        SaysBath x = Texts.withLand(VILLAGE + ITEM + "law 0 0 to 1 if1" + "plus1".repeat(223) + "same224;");
        doc.due("a SUM over all of the TAPE", x.turned(0, 0, 0), 0);
        for (int time = 0; time < 3; time++) {
            Texts.put(x, VILLAGE + ITEM + "law 0 0 to 1 if 1" + "plus1".repeat(120) + "same 121;");
            doc.due("land() in place of another with a long SUM", x.land(), 3);
            doc.due("its LAW", x.turned(0, 0, 0), 0);
        }
        for (String join : new String[] {"plus", "minus", "times"}) {
            bad(1, law, join + " 1 more 2;");
            bad(1, law + "1 " + join + " ", "more 2;");
            bad(1, law + "1 " + join + " ", join + " 3 more 2;");
            bad(1, law + "1 more 2 " + join, ";");
        }
        bad(1, law + "1 ", "2 more 3;");
        bad(1, law, "more 2;");
        bad(1, law + "1 more", ";");

        doc.sentence(TERMS, "PART: N | near A | mass A | size | year.");
        for (String part : new String[] {"7", "near 2", "mass 2", "size", "year"}) {
            good(law + part + " more " + part + ";", 4);
        }
        bad(1, law + "near ", "size more 1;");
        bad(1, law + "size ", "1 more 1;");
        bad(1, law, "far 1 more 1;");
    }

    private void howMany() {
        doc.sentence(TERMS, "VILLAGES (24 at most)");
        for (int n = 23; n <= 24; n++) {
            SaysBath x = Texts.withLand(VILLAGE.repeat(n - 1) + "village size 77;");
            doc.due("VILLAGES", x.count(1), n);
            doc.due("size of the last", x.village(n - 1, 0), 77);
            doc.due("there is no next", x.village(n, 0), NOTHING);
        }
        bad(3, VILLAGE.repeat(24), VILLAGE);

        doc.sentence(TERMS, "ROADS (40)");
        String two = VILLAGE + VILLAGE + ITEM + "says 1 0 1;";
        for (int n = 39; n <= 40; n++) {
            SaysBath x = Texts.withLand(two + "road 0 1;".repeat(n));
            doc.due("ROADS", x.count(2), n);
            doc.due("the last", x.bundle(n - 1, 0), 1);
            doc.due("there is no next", x.bundle(n, 0), -2);
        }
        bad(3, two + "road 0 1;".repeat(40), "road 0 1;");

        doc.sentence(TERMS, "ITEMS (10)");
        for (int n = 9; n <= 10; n++) {
            SaysBath x = Texts.withLand(ITEM.repeat(n - 1) + "item of 5 standard 0;");
            doc.due("ITEMS", x.count(3), n);
            doc.due("the last", x.hear(n - 1, 4, false), 1);
            doc.due("there is no next", x.hear(n, 0, false), -2);
        }
        bad(3, ITEM.repeat(10), ITEM);

        doc.sentence(TERMS, "LAWS (20)");
        for (int n = 19; n <= 20; n++) {
            SaysBath x = Texts.withLand(VILLAGE + ITEM + "law 0 0 to 1 if 1 less 0;".repeat(n - 1)
                    + "law 0 0 to 1 if 1 more 0;");
            doc.due("LAWS", x.count(4), n);
            doc.due("the last", x.turned(0, 0, 0), n - 1);
            doc.due("none for the other variant", x.turned(0, 0, 1), NONE);
        }
        bad(3, ITEM + "law 0 0 to 1 if 1 more 0;".repeat(20), "law 0 0 to 1 if 1 more 0;");

        doc.sentence(TERMS, "are numbered each as they stand.");
        SaysBath x = Texts.withLand("village size 11;item of 2 standard 1;village size 12;road 1 0;item of 3 standard 0;"
                + "village size 13;road 2 0 river;law 1 0 to 2 if 1 more 0;says 1 0 1;law 0 0 to 1 if 1 more 0;");
        for (int v = 0; v < 3; v++) {
            doc.due("size of " + v, x.village(v, 0), 11 + v);
        }
        doc.due("ROAD 0", x.bundle(0, 0), 1);
        doc.due("ROAD 1", x.bundle(1, 0), 0);
        doc.due("variant 2 of ITEM 0", x.noted(0, 0, 2), NONE);
        doc.due("variant 2 of ITEM 1", x.noted(0, 1, 2), 0);
        doc.due("LAW 0", x.turned(0, 1, 0), 0);
        doc.due("LAW 1", x.turned(0, 0, 0), 1);
    }

    private void toldAhead() {
        doc.sentence(TERMS, "V, I: told ahead.");
        good(VILLAGE + VILLAGE + "road 1 0;", 3);
        bad(2, "road ", "0 1;" + VILLAGE + VILLAGE);
        bad(2, VILLAGE + "road 0 ", "1;" + VILLAGE);
        bad(2, VILLAGE + "road ", "1 0;" + VILLAGE);
        good(VILLAGE + ITEM + "says 0 0 0;", 3);
        bad(2, ITEM + "says ", "0 0 0;" + VILLAGE);
        bad(2, VILLAGE + "says 0 ", "0 0;" + ITEM);
        good(ITEM + "law 0 0 to 1 if 1 more 0;", 2);
        bad(2, "law ", "0 0 to 1 if 1 more 0;" + ITEM);
        bad(2, ITEM + "law ", "1 0 to 1 if 1 more 0;" + ITEM);
    }

    private void numbers() {
        doc.sentence(TERMS, "size 1 .. 99");
        for (int size : new int[] {1, 2, 98, 99}) {
            doc.due("size", Texts.withLand("village size " + size + ";").village(0, 0), size);
        }
        bad(2, "village size ", "0;");
        bad(2, "village size ", "100;");

        doc.sentence(TERMS, "a ROAD's two V are unlike");
        good(VILLAGE + VILLAGE + "road 0 1;road 1 0;", 4);
        bad(2, VILLAGE + VILLAGE + "road 0 ", "0;");
        bad(2, VILLAGE + VILLAGE + "road 1 ", "1 river;");
        bad(2, VILLAGE + VILLAGE + "road 1 ", "001;");

        doc.sentence(TERMS, "an ITEM has of N variants, 2 .. 5");
        for (int variants = 2; variants <= 5; variants++) {
            SaysBath x = Texts.withLand("item of " + variants + " standard 0;");
            doc.due("its last variant", x.hear(0, variants - 1, false), 1);
            doc.due("none beyond it", x.hear(0, variants, false), -2);
        }
        bad(2, "item of ", "1 standard 0;");
        bad(2, "item of ", "0 standard 0;");
        bad(2, "item of ", "6 standard 0;");

        doc.sentence(TERMS, "N in a SUM: 0 .. 999.");
        String law = GROUND + "law 0 0 to 1 if ";
        String[][] around = {{"", " more 1;"}, {"1 more ", ";"}, {"1 plus ", " more 1;"}, {"1 minus ", " more 1;"},
            {"size times ", " more 1;"}, {"1 more year times ", ";"}};
        for (String[] sides : around) {
            good(law + sides[0] + "0" + sides[1], 4);
            good(law + sides[0] + "999" + sides[1], 4);
            bad(2, law + sides[0], "1000" + sides[1]);
        }
    }

    private void variants() {
        doc.sentence(TERMS, "A: 0 .. one less than that (of the ITEM; standard, too)");
        for (int of = 2; of <= 5; of++) {
            String item = "item of " + of + " standard ";
            // Another ITEM stands on either side, with more variants and with fewer.
            String ground = VILLAGE + "item of 5 standard 0;" + item + "0;" + ITEM;
            int last = of - 1;
            good(item + "0;", 1);
            good(item + last + ";", 1);
            bad(2, item, of + ";");
            good(ground + "says 0 1 0;", 5);
            good(ground + "says 0 1 " + last + ";", 5);
            bad(2, ground + "says 0 1 ", of + ";");
            good(ground + "law 1 " + last + " to " + last + " if near " + last + " more mass " + last + ";", 5);
            good(ground + "law 1 0 to 0 if near 0 more mass 0;", 5);
            bad(2, ground + "law 1 ", of + " to 0 if near 0 more mass 0;");
            bad(2, ground + "law 1 0 to ", of + " if near 0 more mass 0;");
            bad(2, ground + "law 1 0 to 0 if near ", of + " more mass 0;");
            bad(2, ground + "law 1 0 to 0 if near 0 more mass ", of + ";");
        }
    }

    private void toldOnce() {
        doc.sentence(TERMS, "says: once of a V and I.");
        String ground = VILLAGE + VILLAGE + ITEM + ITEM;
        String all = ground + "says 0 0 0;says 0 1 1;says 1 0 1;says 1 1 0;";
        good(all, 8);
        for (int v = 0; v < 2; v++) {
            for (int item = 0; item < 2; item++) {
                bad(2, all + "says " + v + " ", item + " 0;");
                bad(2, all + "says " + v + " ", item + " 1;");
            }
        }
        bad(2, ground + "says 0 0 1;says 0 ", "0 1;");
    }

    private void tokens() {
        doc.sentence(TERMS, "TOKENS, blanks (32, 10) aside, the longest:");
        for (char sign = 0; sign < 256; sign++) {
            boolean blank = sign == 32 || sign == 10;
            boolean letter = sign >= 'a' && sign <= 'z';
            if (blank) {
                good("village" + sign + "size 1;" + sign, 1);
                good(sign + "village size" + sign + sign + "1" + sign + ";", 1);
            } else if (letter) {
                bad(1, "", "village" + sign + "size 1;");
            } else {
                bad(1, "village", sign + "size 1;");
            }
            if (!blank) {
                bad(1, VILLAGE, String.valueOf(sign));
            }
        }
        good("village size1;village\nsize 2;road0 1river;item of2standard1;says1 0 1;law0 1to0if1more year;", 6);
        bad(1, "", "villagesize 1;");
        bad(1, "", "vil lage size 1;");
        doc.due("12 is one number", Texts.withLand("village size 12;").village(0, 0), 12);
        bad(1, "village size 1 ", "2;");
        bad(1, VILLAGE + VILLAGE + "road 01", ";");
        bad(1, VILLAGE + VILLAGE + "road 0 1 ", "riverriver;");

        doc.sentence(TERMS, "words (a .. z),");
        for (String word : new String[] {"Village", "VILLAGE", "villagE", "`village", "{village"}) {
            bad(1, "", word + " size 1;");
        }
        bad(1, "", "z size 1;");
        bad(1, "", "a size 1;");

        doc.sentence(TERMS, "numbers (digits),");
        for (char sign = 0; sign < 256; sign++) {
            if (sign >= '0' && sign <= '9') {
                String text = "village size " + sign + "5;village size 5" + sign + ";";
                SaysBath x = Texts.withLand(text);
                doc.due("size", x.village(0, 0), 10 * (sign - '0') + 5);
                doc.due("size", x.village(1, 0), 50 + sign - '0');
            } else if (sign != 32 && sign != 10 && sign != ';') {
                bad(1, "village size 5", sign + ";");
                bad(1, "village size ", sign + "5;");
            }
        }
        good("village size 0000000000000000000000000000000099;", 1);

        doc.sentence(TERMS, "the sign ; .");
        good("village size 1;", 1);
        good("village size 1 ; ", 1);
        bad(1, VILLAGE, ";");
        bad(1, "", ";");
        bad(1, "village size 1", ":");
        bad(1, "village size 1", "<");
    }

    private void faultPlaces() {
        doc.sentence(TERMS, "FAULTS, the first by its place (a TOKEN's first byte; the end's),");
        bad(2, "village size ", "100 x");
        bad(1, "village ", "! size 0;");
        bad(2, "village size ", "0;village");
        bad(1, "village size 1 ", "village size 0;");
        bad(2, VILLAGE + "village size ", "12345;" + VILLAGE.repeat(24));
        bad(3, VILLAGE.repeat(24), "village size 0;");
        bad(1, "\n \n  ", "villages size 1;");
        bad(1, "village size 1", "");
        bad(1, "village size 1 \n ", "");
        bad(1, "village", "");
        bad(1, "village size 1" + " ".repeat(1186), "");

        doc.sentence(TERMS, "of one place the least:");
        bad(1, "village ", "100;");
        bad(1, "village size 1 ", "1000;");
        bad(1, VILLAGE + VILLAGE + "road 0 1 ", "99;");
        bad(1, "item ", "6;");
        bad(1, GROUND + "law 0 0 to 1 if near 0 ", "1000 more 1;");
        bad(1, VILLAGE.repeat(24), "1000;");
        bad(1, VILLAGE.repeat(24), "villages;");
    }

    private static String plain(String line) {
        return line.replaceAll(":\\d+", "");
    }

    private static String[] before(String[] tokens, int p) {
        StringBuilder text = new StringBuilder(GROUND);
        for (int i = 0; i < p; i++) {
            text.append(plain(tokens[i])).append(' ');
        }
        StringBuilder rest = new StringBuilder();
        for (int i = p + 1; i < tokens.length; i++) {
            rest.append(' ').append(plain(tokens[i]));
        }
        return new String[] {text.toString(), rest.toString()};
    }

    private void faultOne() {
        doc.sentence(TERMS, "1 a TOKEN that is none, or can't stand there.");
        for (String line : LINES) {
            String[] tokens = line.split(" ");
            for (int p = 0; p < tokens.length; p++) {
                String[] sides = before(tokens, p);
                if (p > 0) {
                    bad(1, sides[0].trim(), "");
                    bad(1, sides[0] + "\n", "");
                }
                for (String other : new String[] {"x", "!", "if", ";", "7"}) {
                    if (!mayStand(other, tokens, p)) {
                        bad(1, sides[0], other + sides[1]);
                    }
                }
            }
        }
    }

    private static boolean mayStand(String other, String[] tokens, int p) {
        String due = tokens[p];
        if (other.equals("7")) {
            return due.contains(":") || due.equals("near") || due.equals("mass") || due.equals("size") && p > 1
                    || due.equals("year");
        }
        if (other.equals(";")) {
            // A SUM on the right may be at its end ahead of "plus", a ROAD ahead of "river".
            return due.equals(";") || due.equals("river") || due.equals("plus") && tokens[p - 1].equals("year");
        }
        return other.equals(due);
    }

    private void faultTwo() {
        doc.sentence(TERMS, "2 a number out of its bounds;");
        for (String line : LINES) {
            String[] tokens = line.split(" ");
            for (int p = 0; p < tokens.length; p++) {
                String[] parts = tokens[p].split(":");
                if (parts.length == 3) {
                    numberAt(before(tokens, p), Integer.parseInt(parts[1]), Integer.parseInt(parts[2]),
                            tokens[0].equals("road"));
                }
            }
        }

        doc.sentence(TERMS, "a V, I not told;");
        for (int told = 1; told <= 23; told += 11) {
            String villages = VILLAGE.repeat(told);
            int last = told - 1;
            good(villages + ITEM + "says " + last + " 0 0;", told + 2);
            bad(2, villages + ITEM + "says ", told + " 0 0;");
            good(villages + VILLAGE + "road " + last + " " + told + ";", told + 2);
            bad(2, villages + "road " + last + " ", told + ";");
            bad(2, villages + "road ", told + " " + last + ";");
        }
        for (int told = 0; told <= 9; told += 9) {
            bad(2, VILLAGE + ITEM.repeat(told) + "says 0 ", told + " 0;");
            bad(2, ITEM.repeat(told) + "law ", told + " 0 to 1 if 1 more 1;");
        }
        good(VILLAGE + ITEM.repeat(10) + "says 0 9 0;law 9 0 to 1 if 1 more 1;", 13);
        bad(2, VILLAGE + ITEM.repeat(10) + "says 0 ", "10 0;");

        doc.sentence(TERMS, "the second V of a ROAD that is the first;");
        bad(2, VILLAGE + "road 0 ", "0;");
        bad(2, VILLAGE.repeat(24) + "road 23 ", "23 river;");
        bad(2, VILLAGE.repeat(24) + "road 23 ", "23");

        doc.sentence(TERMS, "says told already (at I).");
        bad(2, VILLAGE + ITEM + "says 0 0 0;says 0 ", "0 0;");
        bad(2, VILLAGE + ITEM + "says 0 0 0;says 0 ", "0");
        bad(2, VILLAGE + ITEM + "says 0 0 0;says 0 ", "0 2;");
    }

    private void numberAt(String[] sides, int least, int most, boolean ofRoad) {
        if (!ofRoad) {
            // A ROAD's bounds are two VILLAGES, of which the other number may have each.
            good(sides[0] + least + sides[1], 4);
            good(sides[0] + "000" + most + sides[1], 4);
        }
        if (least > 0) {
            bad(2, sides[0], (least - 1) + sides[1]);
            bad(2, sides[0], "0" + sides[1]);
        }
        bad(2, sides[0], (most + 1) + sides[1]);
        // Numbers that would look small, were they cut to four or eight bytes.
        bad(2, sides[0], ((1L << 32) + least) + sides[1]);
        bad(2, sides[0], "1844674407370955161" + (6 + least) + sides[1]);
        bad(2, sides[0], "9".repeat(200) + sides[1]);
    }

    private void faultThree() {
        String road = VILLAGE + VILLAGE + "road 0 1;".repeat(40);
        String law = ITEM + "law 0 0 to 1 if 1 more 0;".repeat(20);
        doc.sentence(TERMS, "3 a 25th VILLAGE,");
        limit(VILLAGE.repeat(24), "village", " size 1;", 24);
        doc.sentence(TERMS, "a 41st ROAD,");
        limit(road, "road", " 0 1;", 42);
        doc.sentence(TERMS, "an 11th ITEM,");
        limit(ITEM.repeat(10), "item", " of 2 standard 0;", 10);
        doc.sentence(TERMS, "a 21st LAW (at its first TOKEN).");
        limit(law, "law", " 0 0 to 1 if 1 more 0;", 21);

        // Of one kind there may be as many as there may, though another is full.
        good(VILLAGE.repeat(24) + "road 0 1;".repeat(40) + ITEM.repeat(10), 74);
        bad(3, VILLAGE.repeat(24) + "road 0 1;".repeat(40) + ITEM.repeat(10), VILLAGE);
    }

    private void limit(String full, String word, String rest, int lines) {
        good(full, lines);
        bad(3, full, word + rest);
        bad(3, full + " \n ", word + rest);
        bad(3, full, word);
        bad(3, full, word + " !");
        bad(3, full, word + rest + word + rest + "x");
        bad(1, full, word + "s" + rest);
    }
}
