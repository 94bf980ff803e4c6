/** Promises 39 to 45 and the SLOTS of terms I at their bounds: what there is, IMAGES, rows. */
final class StoreBounds {
    private static final int NONE = -1;
    private static final int NOTHING = -2000000000;
    private static final int TERMS = Sentences.TERMS;
    private static final String VILLAGE = "village size 1;";
    private static final String ITEM = "item of 2 standard 0;";

    private final Sentences doc;

    private StoreBounds(Sentences doc) {
        this.doc = doc;
    }

    static void all(Sentences doc) {
        StoreBounds bounds = new StoreBounds(doc);
        bounds.village();
        bounds.count();
        bounds.countBounds();
        bounds.keep();
        bounds.back();
        bounds.backRefused();
        bounds.slots();
        bounds.row();
        bounds.rowRefused();
        bounds.write();
        bounds.writeRefused();
        bounds.paste();
        bounds.pasteRefused();
        bounds.pasteBeyond();
    }

    private static SaysBath full() {
        return Texts.withLand(Busy.FULL);
    }

    /** Ten ITEMS of five variants, so that hears() takes any two small numbers of a row. */
    private static SaysBath reading() {
        return Texts.withLand(Busy.WAITING);
    }

    private static SaysBath withRow(SaysBath bath, int slot, int width, long... numbers) {
        bath.row(slot, width, numbers.length);
        for (int i = 0; i < numbers.length; i++) {
            bath.write(slot, i, numbers[i]);
        }
        return bath;
    }

    /** The row has these pairs of an ITEM and a variant, each ITEM once. */
    private void rowHas(String when, SaysBath bath, int slot, int... pairs) {
        bath.mute();
        doc.due("pairs " + when, bath.hears(slot), pairs.length / 2);
        doc.due("ITEMS " + when, bath.count(6), pairs.length / 2);
        for (int i = 0; i < pairs.length; i += 2) {
            doc.due("heard(" + pairs[i] + ") " + when, bath.heard(pairs[i]), pairs[i + 1]);
        }
    }

    private void village() {
        doc.sentence(39, "Of VILLAGE v what 0: its size, 1: its ROADS, 2: who walked it (NONE).");
        SaysBath x = full();
        doc.due("size of 0", x.village(0, 0), 1);
        doc.due("size of 23", x.village(23, 0), 99);
        doc.due("ROADS of 0", x.village(0, 1), 1);
        doc.due("ROADS of 1", x.village(1, 1), 2);
        doc.due("ROADS of 22", x.village(22, 1), 19);
        doc.due("ROADS of 23", x.village(23, 1), 18);
        doc.due("who walked 23", x.village(23, 2), NONE);
        for (int asker = 0; asker < 6; asker++) {
            x.walk(23, asker);
            doc.due("who walked 23", x.village(23, 2), asker);
        }
        x.walk(23, NONE);
        doc.due("who walked 23", x.village(23, 2), NONE);
        doc.due("who walked 0", x.village(0, 2), NONE);
        x = Texts.withLand(VILLAGE.repeat(3) + "road 0 1;".repeat(20) + "road 1 0 river;".repeat(20));
        doc.due("forty ROADS", x.village(1, 1), 40);
        doc.due("no ROADS", x.village(2, 1), 0);

        doc.sentence(39, "NOTHING (-2,000,000,000) for others.");
        doc.outside("village", NOTHING, new int[] {0, 0}, new int[] {2, 2}, (b, a) -> b.village(a[0], a[1]));
        doc.due("village(24, 0) of 24", full().village(24, 0), NOTHING);
        doc.due("village(0, 2) of none", new SaysBath().village(0, 2), NOTHING);
    }

    private void count() {
        doc.sentence(40, "0 LINES of the LAND, 1 VILLAGES, 2 ROADS, 3 ITEMS, 4 LAWS, 5 bytes of the TAPE, 6 ITEMS that are HEARD, "
                + "7 answers that are NOTED, 8 SLOTS that have a row.");
        int[] busy = {10, 3, 2, 2, 1, 180, 2, 13, 3};
        int[] none = new int[9];
        SaysBath x = Busy.make();
        SaysBath fresh = new SaysBath();
        for (int what = 0; what <= 8; what++) {
            doc.due("count(" + what + ")", x.count(what), busy[what]);
            doc.due("count(" + what + ") of a new object", fresh.count(what), none[what]);
        }
        x = Texts.withLand("village size1;".repeat(24) + "road8 9;".repeat(40) + "item of5standard4;".repeat(10)
                + "law9 0to4if1more0;".repeat(20));
        int[] most = {94, 24, 40, 10, 20};
        for (int what = 0; what < 5; what++) {
            doc.due("the most there may be of " + what, x.count(what), most[what]);
        }
        x = fresh;
        for (int slot = 0; slot < 4; slot++) {
            x.row(slot, slot, slot == 0 ? 0 : 60);
            doc.due("SLOTS", x.count(8), slot + 1);
        }
        x.row(3, 0, 0);
        doc.due("SLOTS, one in place of another", x.count(8), 4);
    }

    private void countBounds() {
        doc.sentence(40, "NONE for others.");
        doc.outside("count", NONE, new int[] {0}, new int[] {8}, (b, a) -> b.count(a[0]));
        doc.due("count(9) of a new object", new SaysBath().count(9), NONE);
    }

    /** Another LAND, other things HEARD, NOTED and walked; TAPE and FAULT as the busy object has them. */
    private static void changeAll(SaysBath bath) {
        bath.end(0);
        Texts.put(bath, VILLAGE + VILLAGE + "road 1 0;item of 5 standard 0;says 0 0 4;law 0 3 to 1 if 1 times 2 less 9;");
        bath.land();
        bath.hear(0, 4, false);
        bath.note(1, 0, 4, 5);
        bath.walk(0, 3);
        Busy.refuseLand(bath);
    }

    private void keep() {
        doc.sentence(41, "IMAGE k (0 .. 2) keeps LAND, what is HEARD and NOTED, who walked: 0.");
        String busy = Busy.scene(Busy.make());
        for (int k = 0; k < 3; k++) {
            SaysBath x = Busy.make();
            doc.due("keep(" + k + ")", x.keep(k), 0);
            doc.alike("behind keep(" + k + ")", Busy.scene(x), busy);
            changeAll(x);
            doc.due("another LAND", x.count(0), 6);
            doc.due("back(" + k + ")", x.back(k), 0);
            doc.alike("behind back(" + k + ")", Busy.scene(x), busy);
            doc.due("IMAGE 0", x.back(0), 0);
            doc.due("IMAGE 0 is the latest kept there", x.village(0, 0), k == 0 ? 10 : 8);
        }
        SaysBath x = new SaysBath();
        for (int k = 0; k < 3; k++) {
            Texts.put(x, "village size 1" + k + ";");
            x.land();
            x.keep(k);
        }
        for (int k = 0; k < 3; k++) {
            x.back(k);
            doc.due("each its own", x.village(0, 0), 10 + k);
        }
        x = new SaysBath();
        doc.due("keep(1) without a LAND", x.keep(1), 0);
        changeAll(x);
        doc.due("back(1)", x.back(1), 0);
        for (int what : new int[] {0, 1, 2, 3, 4, 6, 7}) {
            doc.due("count(" + what + ")", x.count(what), 0);
        }

        doc.sentence(41, "-2: no such k.");
        doc.outside("keep", -2, new int[] {0}, new int[] {2}, (b, a) -> b.keep(a[0]));
        doc.due("keep(3) of a new object", new SaysBath().keep(3), -2);
    }

    private void fullImages() {
        SaysBath x = full();
        String before = Busy.scene(x);
        x.keep(1);
        Texts.put(x, "village size2;".repeat(24) + "road9 8river;".repeat(40) + "item of2standard0;".repeat(10));
        x.land();
        x.back(1);
        doc.alike("behind back() to a full LAND", Busy.scene(x), before);
        doc.due("size of 23", x.village(23, 0), 99);
        doc.due("ROADS of 23", x.village(23, 1), 18);
        doc.due("says(23, 8, 60)", x.says(23, 8, 60), 1);
        doc.due("says(23, 9, 60)", x.says(23, 9, 60), 2);
        doc.due("bundle(39, 0)", x.bundle(39, 0), 10);
        doc.due("variant 4 of ITEM 9", x.hear(9, 4, true), 1);
        doc.due("its standard", x.whole(0), 0xffffff);

        StringBuilder laws = new StringBuilder(VILLAGE + "item of 5 standard 0;");
        for (int law = 0; law < 20; law++) {
            // Twice the YEAR without the LAW's number is that number in the YEAR of that number alone.
            laws.append("law0 ").append(law % 5).append("to").append((law + 1) % 5).append("if year times2minus")
                    .append(law).append("same0times size plus").append(law).append(';');
        }
        x = Texts.withLand(laws.toString());
        x.keep(2);
        Texts.put(x, ITEM + ITEM + "law1 1to0if3less4;".repeat(20));
        x.land();
        x.back(2);
        for (int law = 0; law < 20; law++) {
            doc.due("LAW " + law + " behind back()", x.turned(0, 0, law), law);
        }
        doc.due("still(0)", x.still(0), 20);

        x = Texts.withLand("village size 9;village size 4;road 0 1;road 1 0;item of 2 standard 0;"
                + "law 0 0 to 1 if mass 0 same 4;");
        x.keep(0);
        Texts.put(x, VILLAGE.repeat(4) + "road 0 1;road 2 3;");
        x.land();
        x.back(0);
        doc.due("two ROADS to one VILLAGE count once", x.turned(0, 0, 0), 0);
    }

    private void back() {
        doc.sentence(42, "These are as IMAGE k has them: 0.");
        SaysBath x = Busy.make();
        x.keep(2);
        doc.due("back(0)", x.back(0), 0);
        int[] counts = {6, 2, 1, 1, 1, 180, 1, 2, 3};
        for (int what = 0; what <= 8; what++) {
            doc.due("count(" + what + ")", x.count(what), counts[what]);
        }
        doc.due("the map", x.says(0, 0, 60), 1);
        doc.due("heard(0)", x.heard(0), 102);
        doc.due("noted(1, 0, 3)", x.noted(1, 0, 3), 2);
        doc.due("who walked 1", x.village(1, 2), 4);
        doc.due("FAULT is no part of it", x.fault(0), 2);
        doc.due("its place neither", x.fault(1), 13);
        x.mute();
        x.note(0, 0, 0, 9);
        x.walk(1, NONE);
        doc.due("back(0) once more", x.back(0), 0);
        doc.due("HEARD", x.count(6), 1);
        doc.due("NOTED", x.count(7), 2);
        doc.due("who walked 1", x.village(1, 2), 4);
        doc.due("back(2)", x.back(2), 0);
        doc.alike("behind back(2)", Busy.scene(x), Busy.scene(Busy.make()));
        x.land();
        rowHas("of SLOT 0", x, 0, 1, 2, 3, 4);
        rowHas("of SLOT 1", x, 1, 5, 1);
        fullImages();
    }

    private void backRefused() {
        doc.sentence(42, "-2: no such k;");
        doc.outside("back", -2, new int[] {0}, new int[] {2}, (b, a) -> b.back(a[0]));

        doc.sentence(42, "-6: it has nothing.");
        doc.refused("back(1)", b -> b.back(1), -6);
        doc.refused("back(2)", b -> b.back(2), -6);
        SaysBath x = new SaysBath();
        for (int k = 0; k < 3; k++) {
            doc.due("back(" + k + ") ahead of keep()", x.back(k), -6);
            x.keep(k);
            doc.due("back(" + k + ") behind it", x.back(k), 0);
        }
    }

    private void slots() {
        doc.sentence(TERMS, "SLOTS 0 .. 3 have rows of numbers of 1, 2, 4 or 8 bytes (WIDTH 0 .. 3), at most 60, or nothing.");
        long[] beyond = {1L << 8, 1L << 16, 1L << 32};
        for (int slot = 0; slot < 4; slot++) {
            for (int width = 0; width < 4; width++) {
                SaysBath x = reading();
                doc.due("nothing", x.hears(slot), -6);
                doc.due("a row", x.row(slot, width, 60), 0);
                doc.due("its last number", x.write(slot, 59, 0), 0);
                doc.due("none beyond it", x.write(slot, 60, 0), -7);
                x.row(slot, width, 2);
                for (int bytes = 0; bytes < 3; bytes++) {
                    x.write(slot, 0, beyond[bytes] + 7);
                    doc.due("SLOT " + slot + ", WIDTH " + width + ", " + beyond[bytes] + " and 7", x.hears(slot),
                            width <= bytes ? 1 : 0);
                }
                doc.due("ITEM 7", x.heard(7), width < 3 ? 0 : NONE);
            }
        }
    }

    private void row() {
        doc.sentence(43, "A SLOT (0 .. 3) has a row of n numbers of a WIDTH, all 0 (in place of another one): 0.");
        for (int slot = 0; slot < 4; slot++) {
            for (int width = 0; width < 4; width++) {
                SaysBath x = withRow(reading(), slot, 3 - width, 4, 3, 2, 1);
                doc.due("row(" + slot + ", " + width + ", 3)", x.row(slot, width, 3), 0);
                rowHas("in place of another one", x, slot, 0, 0);
                doc.due("number 2", x.write(slot, 2, 1), 0);
                doc.due("no number 3", x.write(slot, 3, 1), -7);
                doc.due("row(" + slot + ", " + width + ", 0)", x.row(slot, width, 0), 0);
                doc.due("it has no number", x.write(slot, 0, 1), -7);
                doc.due("but a row", x.hears(slot), 0);
                doc.due("row(" + slot + ", " + width + ", 60)", x.row(slot, width, 60), 0);
                doc.due("thirty pairs of 0, 0", x.hears(slot), 30);
                doc.due("number 59", x.write(slot, 59, 1), 0);
                doc.due("SLOTS", x.count(8), 1);
            }
        }
    }

    private void rowRefused() {
        doc.sentence(43, "-2: there is no such SLOT or WIDTH (0 .. 3), or n is above 60;");
        doc.outside("row", -2, new int[] {0, 0}, new int[] {3, 3}, (b, a) -> b.row(a[0], a[1], 5));
        for (int n : new int[] {61, 62, 1000, Integer.MAX_VALUE}) {
            for (int slot = 0; slot < 4; slot++) {
                int itsSlot = slot;
                doc.refused("row(" + slot + ", 0, " + n + ")", b -> b.row(itsSlot, 0, n), -2);
            }
        }

        doc.sentence(43, "-3, and the SLOT stays: n is below 0.");
        for (int n : new int[] {-1, -2, Integer.MIN_VALUE}) {
            for (int slot = 0; slot < 4; slot++) {
                int itsSlot = slot;
                doc.refused("row(" + slot + ", 3, " + n + ")", b -> b.row(itsSlot, 3, n), -3);
            }
        }
    }

    private void write() {
        doc.sentence(44, "Number i of the SLOT's row is v, cut to its WIDTH: 0.");
        for (int width = 0; width < 4; width++) {
            SaysBath x = reading();
            x.row(0, width, 60);
            doc.due("number 0", x.write(0, 0, 9), 0);
            doc.due("number 1", x.write(0, 1, 4), 0);
            doc.due("number 58", x.write(0, 58, 8), 0);
            doc.due("number 59", x.write(0, 59, 3), 0);
            doc.due("hears(0)", x.hears(0), 30);
            doc.due("heard(9)", x.heard(9), 4);
            doc.due("heard(8)", x.heard(8), 3);
            doc.due("heard(0)", x.heard(0), 0);
        }
        for (int width = 0; width < 4; width++) {
            SaysBath x = reading();
            x.row(1, width, 2);
            int bits = 8 << width;
            long around = width < 3 ? 1L << bits : 0;
            for (long turn = -2; turn <= 2; turn++) {
                doc.due("write", x.write(1, 0, turn * around + 6), 0);
                doc.due("write", x.write(1, 1, turn * around + 2), 0);
                rowHas("of WIDTH " + width + ", " + turn + " times round", x, 1, 6, 2);
            }
            long[] none = {-1, 1L << bits - 1, (1L << bits - 1) - 1, -(1L << bits - 1), (1L << bits - 1) + 6, 10, 1L << 7,
                255};
            for (long number : none) {
                x.write(1, 0, number);
                doc.due(number + " is no ITEM in WIDTH " + width, x.hears(1), 0);
            }
        }
        SaysBath x = reading();
        x.row(2, 3, 2);
        for (int bit = 4; bit < 64; bit++) {
            x.write(2, 0, (1L << bit) + 6);
            doc.due("eight bytes with bit " + bit, x.hears(2), 0);
        }
    }

    private void writeRefused() {
        doc.sentence(44, "-2: there is no such SLOT;");
        doc.outside("write to SLOT", -2, new int[] {0}, new int[] {3}, (b, a) -> b.write(a[0], 0, 7));

        doc.sentence(44, "-6: it has nothing;");
        for (int i : new int[] {0, -1, 60}) {
            doc.refused("write(2, " + i + ", 7)", b -> b.write(2, i, 7), -6);
        }
        for (int slot = 0; slot < 4; slot++) {
            doc.due("write(" + slot + ", 0, 7) of a new object", new SaysBath().write(slot, 0, 7), -6);
        }

        doc.sentence(44, "-7: there is no such number.");
        doc.outside("write to SLOT 0, number", -7, new int[] {0}, new int[] {3}, (b, a) -> b.write(0, a[0], 7));
        doc.outside("write to SLOT 1, number", -7, new int[] {0}, new int[] {1}, (b, a) -> b.write(1, a[0], 7));
        doc.refused("write(3, 0, 7) to a row of none", b -> b.write(3, 0, 7), -7);
        doc.refused("write(3, -1, 7) to a row of none", b -> b.write(3, -1, 7), -7);
    }

    private void paste() {
        doc.sentence(45, "So many numbers of a SLOT's row, from one on, are put to another one's (or its own), from one on, as they "
                + "were: 0.");
        for (int width = 0; width < 4; width++) {
            SaysBath x = withRow(reading(), 0, width, 1, 2, 3, 4, 5, 3);
            withRow(x, 3, width, 6, 1, 7, 2, 8, 3);
            doc.due("the first two to the last", x.paste(0, 0, 3, 4, 2), 0);
            rowHas("of the other one", x, 3, 6, 1, 7, 2, 1, 2);
            rowHas("of the first, as it was", x, 0, 1, 2, 3, 4, 5, 3);
            doc.due("the last two to the first", x.paste(0, 4, 3, 0, 2), 0);
            rowHas("of the other one", x, 3, 5, 3, 7, 2, 1, 2);
            doc.due("none at all", x.paste(0, 0, 3, 0, 0), 0);
            doc.due("none, at both ends", x.paste(0, 6, 3, 6, 0), 0);
            rowHas("of the other one", x, 3, 5, 3, 7, 2, 1, 2);
            doc.due("all", x.paste(0, 0, 3, 0, 6), 0);
            rowHas("of the other one", x, 3, 1, 2, 3, 4, 5, 3);
            doc.due("all to its own", x.paste(0, 0, 0, 0, 6), 0);
            rowHas("of the first", x, 0, 1, 2, 3, 4, 5, 3);
            doc.due("to its own, two further on", x.paste(0, 0, 0, 2, 4), 0);
            x.mute();
            doc.due("1 2 1 2 3 4", x.hears(0), 3);
            doc.due("heard(3)", x.heard(3), 4);
            doc.due("heard(5)", x.heard(5), NONE);
            x = withRow(reading(), 0, width, 1, 2, 3, 4, 5, 3);
            doc.due("to its own, two back", x.paste(0, 2, 0, 0, 4), 0);
            doc.due("3 4 5 3 5 3", x.hears(0), 3);
            doc.due("heard(3)", x.heard(3), 4);
            doc.due("heard(1)", x.heard(1), NONE);
        }
        SaysBath x = reading();
        x.row(0, 3, 60);
        x.row(1, 3, 60);
        x.write(0, 0, 9);
        x.write(0, 59, 4);
        x.write(0, 58, 8);
        doc.due("sixty", x.paste(0, 0, 1, 0, 60), 0);
        doc.due("pairs", x.hears(1), 30);
        doc.due("heard(9)", x.heard(9), 0);
        doc.due("heard(8)", x.heard(8), 4);
        doc.due("none to a row of none", Busy.make().paste(3, 0, 3, 0, 0), 0);
    }

    private void pasteRefused() {
        doc.sentence(45, "-2: there is no such SLOT;");
        doc.outside("paste from SLOT", -2, new int[] {0}, new int[] {3}, (b, a) -> b.paste(a[0], 0, 0, 0, 1));
        doc.outside("paste to SLOT", -2, new int[] {0}, new int[] {3}, (b, a) -> b.paste(0, 0, a[0], 0, 1));
        doc.refused("paste from one that has nothing to SLOT 4", b -> b.paste(2, 0, 4, 0, 1), -2);

        doc.sentence(45, "-6: one has nothing;");
        doc.refused("paste from SLOT 2", b -> b.paste(2, 0, 0, 0, 1), -6);
        doc.refused("paste to SLOT 2", b -> b.paste(0, 0, 2, 0, 1), -6);
        doc.refused("paste from SLOT 2 to its own", b -> b.paste(2, 0, 2, 0, 0), -6);
        doc.refused("paste of none to SLOT 2", b -> b.paste(0, 0, 2, 0, 0), -6);
        doc.refused("paste to SLOT 2 from beyond", b -> b.paste(0, 4, 2, -1, 1), -6);

        doc.sentence(45, "-8: they are not of one WIDTH;");
        doc.refused("paste from WIDTH 0 to 1", b -> b.paste(0, 0, 1, 0, 1), -8);
        doc.refused("paste from WIDTH 1 to 0", b -> b.paste(1, 0, 0, 0, 1), -8);
        doc.refused("paste from WIDTH 3 to 0", b -> b.paste(3, 0, 0, 0, 0), -8);
        doc.refused("paste of none", b -> b.paste(0, 0, 1, 0, 0), -8);
        doc.refused("paste from beyond", b -> b.paste(0, 4, 1, -1, 9), -8);
        for (int width = 0; width < 4; width++) {
            for (int other = 0; other < 4; other++) {
                SaysBath x = reading();
                x.row(0, width, 2);
                x.row(1, other, 2);
                doc.due("paste from WIDTH " + width + " to " + other, x.paste(0, 0, 1, 0, 2), width == other ? 0 : -8);
            }
        }
    }

    /** The busy object with 6 0 7 0 8 0 in SLOT 2, of the WIDTH of SLOT 0. */
    private static SaysBath twoRows() {
        return withRow(Busy.make(), 2, 0, 6, 0, 7, 0, 8, 0);
    }

    private void pasteBeyond() {
        doc.sentence(45, "-7, and nothing happens: some are beyond their rows, or a place or n is below 0.");
        doc.outside("paste from", -7, new int[] {0}, new int[] {3}, (b, a) -> b.paste(0, a[0], 0, 0, 1));
        doc.outside("paste to", -7, new int[] {0}, new int[] {3}, (b, a) -> b.paste(0, 0, 0, a[0], 1));
        doc.outside("paste of n", -7, new int[] {0}, new int[] {4}, (b, a) -> b.paste(0, 0, 0, 0, a[0]));
        String look = Busy.look(twoRows());
        doc.outside("paste from SLOT 0", StoreBounds::twoRows, look, -7, new int[] {0}, new int[] {1},
                (b, a) -> b.paste(0, a[0], 2, 2, 3));
        doc.outside("paste to SLOT 2", StoreBounds::twoRows, look, -7, new int[] {0}, new int[] {3},
                (b, a) -> b.paste(0, 1, 2, a[0], 3));
        doc.outside("paste of n, the first row's end", StoreBounds::twoRows, look, -7, new int[] {0}, new int[] {2},
                (b, a) -> b.paste(0, 2, 2, 1, a[0]));
        doc.outside("paste of n, the second row's end", StoreBounds::twoRows, look, -7, new int[] {0}, new int[] {1},
                (b, a) -> b.paste(0, 0, 2, 5, a[0]));
        int far = Integer.MAX_VALUE;
        int[][] sums = {{far, 0, far}, {0, far, far}, {far, far, far}, {1, 1, far}, {far, far, 1}, {far, 0, 1},
            {-1, -1, 2}, {-4, 0, 4}, {0, -4, 4}, {4, 4, -4}, {Integer.MIN_VALUE, Integer.MIN_VALUE, Integer.MIN_VALUE}};
        for (int[] sum : sums) {
            doc.refused("paste(0, " + sum[0] + ", 2, " + sum[1] + ", " + sum[2] + ")", StoreBounds::twoRows,
                    b -> b.paste(0, sum[0], 2, sum[1], sum[2]), -7);
        }
        doc.refused("one from a row of none", b -> b.paste(3, 0, 3, 0, 1), -7);
    }
}
