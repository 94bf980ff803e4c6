/** An object with something of everything in it, and all that calls can tell of an object. */
final class Busy {
    static final int VILLAGES = 3;
    static final int ITEMS = 2;

    private static final String KEPT = "village size 8;village size 9;road 0 1 river;item of 4 standard 2;"
            + "says 1 0 3;law 0 0 to 1 if mass 3 more 8;";
    /** ITEM 0 spreads from VILLAGE 0 a VILLAGE a YEAR, ITEM 1 stays. */
    static final String LAND = "village size 10;village size 20;village size 30;road 0 1;road 1 2 river;"
            + "item of 3 standard 1;item of 2 standard 0;says 0 0 2;says 2 1 1;law 0 0 to 2 if near 2 more 0;";
    static final String WAITING = "item of5standard4;".repeat(10);

    /** VILLAGE 23 says 1 for each ITEM, all others say 0; ROADS 22 .. 39 lead to it. It turns to 2 for ITEM 9. */
    static final String FULL = fullText();

    private Busy() {
    }

    private static String fullText() {
        StringBuilder text = new StringBuilder("village size1;".repeat(23) + "village size99;");
        for (int v = 0; v < 23; v++) {
            text.append("road").append(v).append(' ').append(v + 1).append(';');
        }
        text.append("road22 23;".repeat(17)).append(WAITING);
        for (int item = 0; item < 10; item++) {
            text.append("says23 ").append(item).append(" 1;");
        }
        return text.append("law9 1to2if1more0;").toString();
    }

    /**
     * IMAGE 0 has another LAND, IMAGES 1 and 2 nothing. SLOT 0: 1 2 3 4 in WIDTH 0; 1: 5 1 in WIDTH 1; 2: nothing;
     * 3: a row of none in WIDTH 3. The latest land() had FAULT 2 at 13; WAITING is on the TAPE.
     */
    static SaysBath make() {
        SaysBath bath = Texts.withLand(KEPT);
        bath.hear(0, 2, true);
        bath.note(1, 0, 3, 2);
        bath.walk(1, 4);
        bath.keep(0);
        Texts.put(bath, LAND);
        bath.land();
        bath.hear(0, 1, true);
        bath.hear(1, 1, false);
        bath.note(0, 0, 2, 9);
        bath.note(1, 0, 0, 3);
        bath.note(2, 1, 1, 1);
        bath.walk(0, 0);
        bath.walk(1, 5);
        bath.row(0, 0, 4);
        for (int i = 0; i < 4; i++) {
            bath.write(0, i, i + 1);
        }
        bath.row(1, 1, 2);
        bath.write(1, 0, 5);
        bath.write(1, 1, 1);
        bath.row(3, 3, 0);
        refuseLand(bath);
        return bath;
    }

    /** Brings FAULT 2 at 13, and WAITING on the TAPE, whatever was there. */
    static void refuseLand(SaysBath bath) {
        bath.end(0);
        Texts.put(bath, "village size 0;");
        bath.land();
        bath.end(0);
        Texts.put(bath, WAITING);
    }

    /** The busy object with so many bytes on the TAPE; behind WAITING there are blanks. */
    static SaysBath withTape(int bytes) {
        SaysBath bath = make();
        int blank = 0x20202020;
        while (bath.count(5) < bytes) {
            bath.feed(blank, blank, blank, blank, blank);
        }
        bath.end(bytes);
        return bath;
    }

    /** What calls tell of an object, its IMAGES, its TAPE and its SLOTS; the object is of no use any more then. */
    static String look(SaysBath bath) {
        StringBuilder told = new StringBuilder();
        scene(bath, told);
        for (int k = 0; k < 3; k++) {
            int answer = bath.back(k);
            tell(told, "back(" + k + ")", answer);
            if (answer == 0) {
                scene(bath, told);
            }
        }
        tell(told, "land()", bath.land());
        tell(told, "fault(0)", bath.fault(0));
        tell(told, "fault(1)", bath.fault(1));
        tell(told, "count(3)", bath.count(3));
        for (int slot = 0; slot < 4; slot++) {
            row(bath, slot, told);
        }
        return told.toString();
    }

    /** What calls tell of an object but for its IMAGES, its SLOTS and the bytes of its TAPE; nothing changes. */
    static String scene(SaysBath bath) {
        StringBuilder told = new StringBuilder();
        scene(bath, told);
        return told.toString();
    }

    private static void tell(StringBuilder told, String call, long answer) {
        told.append(call.replace(" ", "")).append('=').append(answer).append(' ');
    }

    private static void scene(SaysBath bath, StringBuilder told) {
        for (int what = 0; what <= 8; what++) {
            tell(told, "count(" + what + ")", bath.count(what));
        }
        tell(told, "fault(0)", bath.fault(0));
        tell(told, "fault(1)", bath.fault(1));
        for (int v = 0; v < VILLAGES; v++) {
            village(bath, v, told);
        }
        for (int item = 0; item < 10; item++) {
            tell(told, "heard(" + item + ")", bath.heard(item));
        }
        for (int item = 0; item < ITEMS; item++) {
            tell(told, "still(" + item + ")", bath.still(item));
            tell(told, "river(" + item + ",1,1)", bath.river(item, 1, 1));
            tell(told, "bundle(" + item + ",0)", bath.bundle(item, 0));
        }
    }

    private static void village(SaysBath bath, int v, StringBuilder told) {
        for (int what = 0; what < 3; what++) {
            tell(told, "village(" + v + "," + what + ")", bath.village(v, what));
        }
        for (int item = 0; item < ITEMS; item++) {
            tell(told, "says(" + v + "," + item + ",0)", bath.says(v, item, 0));
            tell(told, "says(" + v + "," + item + ",60)", bath.says(v, item, 60));
            for (int variant = 0; variant < 4; variant++) {
                tell(told, "noted(" + v + "," + item + "," + variant + ")", bath.noted(v, item, variant));
            }
        }
        tell(told, "turned(" + v + ",0,0)", bath.turned(v, 0, 0));
        tell(told, "fits(" + v + ",0)", bath.fits(v, 0));
    }

    /** Its numbers, its length up to five, and its WIDTH, by what hears() takes of it. */
    private static void row(SaysBath bath, int slot, StringBuilder told) {
        bath.mute();
        tell(told, "hears(" + slot + ")", bath.hears(slot));
        for (int item = 0; item < 10; item++) {
            tell(told, "heard(" + item + ")", bath.heard(item));
        }
        for (int i = 0; i < 5; i++) {
            tell(told, "write(" + slot + "," + i + ",9)", bath.write(slot, i, 9));
        }
        bath.write(slot, 1, 0);
        for (int bits = 8; bits <= 32; bits *= 2) {
            bath.write(slot, 0, (1L << bits) + 1);
            tell(told, "hears(" + slot + ")", bath.hears(slot));
        }
    }
}
