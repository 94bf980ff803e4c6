/** Puts texts on an object's TAPE, as tests write them. */
final class Texts {
    private Texts() {
    }

    /** Feeds a text, filled up with blanks to whole feeds, and cuts the TAPE to the text's own end. */
    static void put(SaysBath bath, String text) {
        int before = bath.count(5);
        for (int at = 0; at < text.length(); at += 20) {
            bath.feed(number(text, at), number(text, at + 4), number(text, at + 8), number(text, at + 12),
                    number(text, at + 16));
        }
        bath.end(before + text.length());
    }

    /** Four signs of a text as one number, the first of them highest. */
    static int number(String text, int at) {
        int result = 0;
        for (int i = at; i < at + 4; i++) {
            int sign = i < text.length() ? text.charAt(i) : ' ';
            result = result << 8 | sign;
        }
        return result;
    }

    static SaysBath withLand(String text) {
        SaysBath bath = new SaysBath();
        put(bath, text);
        int answer = bath.land();
        if (answer < 0) {
            throw new IllegalStateException("fault " + bath.fault(0) + " at " + bath.fault(1) + " of " + text);
        }
        return bath;
    }
}
