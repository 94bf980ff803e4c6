/** Where one is from by how one says it; ../shared/DOC.md has the promises that the methods keep. */
public final class SaysBath {
    public static final int NONE = -1;

    private static final int NOTHING = -2000000000;
    private static final int NO_SUCH = -2;
    private static final int FULL = -3;
    private static final int FAULTY = -4;
    private static final int EMPTY = -6;
    private static final int BEYOND = -7;
    private static final int UNLIKE = -8;

    private static final int TAPE_BYTES = 1200;
    private static final int FEED_BYTES = 20;
    private static final int VILLAGES = 24;
    private static final int ROADS = 40;
    private static final int ITEMS = 10;
    private static final int LAWS = 20;
    private static final int VARIANTS = 5;
    // A PART takes five bytes of the TAPE at least: its own and those of the word that joins it.
    private static final int PARTS = TAPE_BYTES / 5;
    private static final int LAST_YEAR = 60;
    private static final int YEARS = LAST_YEAR + 1;
    private static final int HEARD_AT_MOST = 8;
    private static final int ANSWERS_AT_MOST = 9;
    private static final int CLERK_MARK = 100;
    private static final int PAIR_BASE = 100;
    private static final int ASKERS = 6;
    private static final int IMAGES = 3;
    private static final int SLOTS = 4;
    private static final int WIDTHS = 4;
    private static final int ROW_AT_MOST = 60;
    // Two fractions whose numbers are longs are told apart in fewer steps of Euclid's than this.
    private static final int EUCLID_STEPS = 200;

    private static final int FAULT_TOKEN = 1;
    private static final int FAULT_VALUE = 2;
    private static final int FAULT_LIMIT = 3;

    private static final int SIGN_MORE = 0;
    private static final int SIGN_LESS = 1;
    private static final int SIGN_SAME = 2;

    private static final int JOIN_FIRST = 0;
    private static final int JOIN_PLUS = 1;
    private static final int JOIN_MINUS = 2;
    private static final int JOIN_TIMES = 3;

    private static final int PART_NUMBER = 0;
    private static final int PART_NEAR = 1;
    private static final int PART_MASS = 2;
    private static final int PART_SIZE = 3;
    private static final int PART_YEAR = 4;

    private final byte[] tape = new byte[TAPE_BYTES];
    private int tapeLength = 0;
    private final Reader reader = new Reader(tape);
    private final Scene scene = new Scene();
    private final Scene[] images = new Scene[IMAGES];
    private final Slot[] slots = new Slot[SLOTS];
    private final Spread spread = new Spread(scene.land);
    private final int[] bundles = new int[ROADS];
    private final int[] labels = new int[VILLAGES];
    private final int[] fitting = new int[VILLAGES];
    private final int[] tally = new int[VARIANTS];
    private final boolean[] untold = new boolean[1 << ITEMS];

    public SaysBath() {
        for (int s = 0; s < SLOTS; s++) {
            slots[s] = new Slot();
        }
    }

    // ---- the TAPE and the LAND

    public int feed(int a, int b, int c, int d, int e) {
        if (tapeLength + FEED_BYTES > TAPE_BYTES) {
            return NONE;
        }
        putBytes(a);
        putBytes(b);
        putBytes(c);
        putBytes(d);
        putBytes(e);
        return tapeLength;
    }

    private void putBytes(int number) {
        for (int shift = 24; shift >= 0 && tapeLength < TAPE_BYTES; shift -= 8) {
            tape[tapeLength] = (byte) (number >> shift);
            tapeLength++;
        }
    }

    public int end(int n) {
        if (n < 0 || n > tapeLength) {
            return NONE;
        }
        tapeLength = n;
        return n;
    }

    public int land() {
        boolean clean = reader.readTape(tapeLength);
        // The TAPE is used up by a LAND that is refused, too: what stays then is the LAND and what goes with it.
        tapeLength = 0;
        if (!clean) {
            return FAULTY;
        }
        // The two LANDS change places, so that no call makes a new one.
        Land former = scene.land;
        scene.land = reader.land;
        reader.land = former;
        scene.voice.forget();
        scene.notes.forget();
        spread.startWith(scene.land);
        return scene.land.lines;
    }

    public int fault(int what) {
        if (what == 0) {
            return reader.fault;
        }
        return what == 1 ? reader.faultPlace : NONE;
    }

    // ---- the map

    public int says(int v, int item, int year) {
        if (!hasVillage(v) || !reachesItem(item, year)) {
            return NONE;
        }
        return spread.variantAt(item, year, v);
    }

    public int turned(int v, int item, int year) {
        if (!hasVillage(v) || year == LAST_YEAR || !reachesItem(item, year)) {
            return NO_SUCH;
        }
        spread.countNeighbours(item, year);
        return spread.turningLaw(item, year, v);
    }

    public int lines(int item, int year) {
        if (!reachesItem(item, year)) {
            return NO_SUCH;
        }
        return countLines(item, year, false);
    }

    private int countLines(int item, int year, boolean onlyAtRiver) {
        Land land = scene.land;
        int found = 0;
        for (int r = 0; r < land.roads; r++) {
            if (isLine(r, item, year) && (land.atRiver[r] || !onlyAtRiver)) {
                found++;
            }
        }
        return found;
    }

    private boolean isLine(int road, int item, int year) {
        Land land = scene.land;
        return spread.variantAt(item, year, land.roadFrom[road])
                != spread.variantAt(item, year, land.roadTo[road]);
    }

    public int bundle(int road, int year) {
        if (road < 0 || road >= scene.land.roads || !reachesYear(year)) {
            return NO_SUCH;
        }
        return bundleOf(road, year);
    }

    private int bundleOf(int road, int year) {
        int found = 0;
        for (int i = 0; i < scene.land.items; i++) {
            if (isLine(road, i, year)) {
                found++;
            }
        }
        return found;
    }

    private void fillBundles(int year) {
        for (int r = 0; r < scene.land.roads; r++) {
            bundles[r] = bundleOf(r, year);
        }
    }

    public int thick(int year) {
        if (!reachesYear(year)) {
            return NO_SUCH;
        }
        fillBundles(year);
        int best = NONE;
        for (int r = 0; r < scene.land.roads; r++) {
            if (best == NONE || bundles[r] > bundles[best]) {
                best = r;
            }
        }
        return best;
    }

    public int crossed(int k, int year) {
        if (k < 0 || k > ITEMS || !reachesYear(year)) {
            return NO_SUCH;
        }
        fillBundles(year);
        int found = 0;
        for (int r = 0; r < scene.land.roads; r++) {
            if (bundles[r] >= k) {
                found++;
            }
        }
        return found;
    }

    public int areas(int k, int year) {
        if (k < 1 || k > ITEMS + 1 || !reachesYear(year)) {
            return NO_SUCH;
        }
        labelAreas(k, year);
        int found = 0;
        for (int v = 0; v < scene.land.villages; v++) {
            if (labels[v] == v) {
                found++;
            }
        }
        return found;
    }

    public int area(int v, int k, int year) {
        if (!hasVillage(v) || k < 1 || k > ITEMS + 1 || !reachesYear(year)) {
            return NO_SUCH;
        }
        labelAreas(k, year);
        return labels[v];
    }

    private void labelAreas(int k, int year) {
        Land land = scene.land;
        fillBundles(year);
        for (int v = 0; v < land.villages; v++) {
            labels[v] = v;
        }
        boolean changed = true;
        for (int pass = 0; pass < VILLAGES && changed; pass++) {
            changed = false;
            for (int r = 0; r < land.roads; r++) {
                int a = land.roadFrom[r];
                int b = land.roadTo[r];
                if (bundles[r] < k && labels[a] != labels[b]) {
                    int least = Math.min(labels[a], labels[b]);
                    labels[a] = least;
                    labels[b] = least;
                    changed = true;
                }
            }
        }
    }

    public int moved(int item, int a, int b) {
        if (!reachesItem(item, a) || !reachesItem(item, b)) {
            return NO_SUCH;
        }
        int bits = 0;
        for (int v = 0; v < scene.land.villages; v++) {
            if (spread.variantAt(item, a, v) != spread.variantAt(item, b, v)) {
                bits |= 1 << v;
            }
        }
        return bits;
    }

    public int still(int item) {
        if (!reachesItem(item, LAST_YEAR)) {
            return NO_SUCH;
        }
        return spread.stillFrom[item];
    }

    public long river(int item, int year, int what) {
        if (what < 0 || what > 2 || !reachesItem(item, year)) {
            return NO_SUCH;
        }
        int atRiver = countLines(item, year, true);
        if (what == 0) {
            return atRiver;
        }
        int all = countLines(item, year, false);
        int roads = scene.land.roads;
        if (what == 2) {
            return ways(roads, all);
        }
        int rivers = scene.land.countRivers();
        long sum = 0;
        for (int j = atRiver; j <= all && j <= rivers; j++) {
            sum += ways(rivers, j) * ways(roads - rivers, all - j);
        }
        return sum;
    }

    /** How many ways there are to choose k of n; each step divides without a rest. */
    private static long ways(int n, int k) {
        if (k < 0 || k > n) {
            return 0;
        }
        long product = 1;
        for (int i = 0; i < k; i++) {
            product = product * (n - i) / (i + 1);
        }
        return product;
    }

    // ---- the fewest ITEMS that tell VILLAGES apart

    public int tells(int year) {
        if (!reachesYear(year)) {
            return NO_SUCH;
        }
        clearUntold();
        for (int v = 0; v < scene.land.villages; v++) {
            for (int w = v + 1; w < scene.land.villages; w++) {
                untold[difference(v, w, year)] = true;
            }
        }
        return fewestItems();
    }

    public int alone(int v, int year) {
        if (!hasVillage(v) || !reachesYear(year)) {
            return NO_SUCH;
        }
        clearUntold();
        for (int w = 0; w < scene.land.villages; w++) {
            if (w != v) {
                untold[difference(v, w, year)] = true;
            }
        }
        return fewestItems();
    }

    private void clearUntold() {
        for (int set = 0; set < 1 << scene.land.items; set++) {
            untold[set] = false;
        }
    }

    private int difference(int v, int w, int year) {
        int bits = 0;
        for (int i = 0; i < scene.land.items; i++) {
            if (spread.variantAt(i, year, v) != spread.variantAt(i, year, w)) {
                bits |= 1 << i;
            }
        }
        return bits;
    }

    /**
     * ITEMS fail to tell a pair if all by which it differs are among the other ITEMS; so the marks go from each
     * difference to the sets that hold it, and a set of ITEMS is good if the set of the others has no mark.
     */
    private int fewestItems() {
        int sets = 1 << scene.land.items;
        for (int bit = 1; bit < sets; bit <<= 1) {
            for (int set = 0; set < sets; set++) {
                if ((set & bit) != 0 && untold[set ^ bit]) {
                    untold[set] = true;
                }
            }
        }
        int best = NONE;
        for (int set = 0; set < sets; set++) {
            boolean good = !untold[sets - 1 - set];
            if (good && (best == NONE || Integer.bitCount(set) < Integer.bitCount(best))) {
                best = set;
            }
        }
        return best;
    }

    // ---- the voice

    public int hear(int item, int variant, boolean clerk) {
        return listen(item, variant, clerk);
    }

    private int listen(int item, int variant, boolean clerk) {
        if (!hasVariant(item, variant)) {
            return NO_SUCH;
        }
        Voice voice = scene.voice;
        if (voice.variant[item] == NONE) {
            if (voice.known >= HEARD_AT_MOST) {
                return FULL;
            }
            voice.known++;
        }
        voice.variant[item] = variant;
        voice.toClerk[item] = clerk;
        return voice.known;
    }

    public int hears(int slot) {
        if (!isSlot(slot)) {
            return NO_SUCH;
        }
        Slot pairs = slots[slot];
        if (pairs.length == NONE) {
            return EMPTY;
        }
        int taken = 0;
        for (int i = 0; i + 1 < pairs.length; i += 2) {
            long item = pairs.numbers[i];
            long variant = pairs.numbers[i + 1];
            // Looked at as longs: a number of eight bytes may look like an ITEM once it is cut to an int.
            boolean small = item >= 0 && item < ITEMS && variant >= 0 && variant < VARIANTS;
            if (small && listen((int) item, (int) variant, false) >= 0) {
                taken++;
            }
        }
        return taken;
    }

    public int mute() {
        int were = scene.voice.known;
        scene.voice.forget();
        return were;
    }

    public int heard(int item) {
        if (!hasItem(item)) {
            return NO_SUCH;
        }
        int variant = scene.voice.variant[item];
        if (variant == NONE) {
            return NONE;
        }
        return scene.voice.toClerk[item] ? variant + CLERK_MARK : variant;
    }

    /** For each VILLAGE the HEARD ITEMS that it FITS, as bits. */
    private void fillFitting(int year) {
        for (int v = 0; v < scene.land.villages; v++) {
            fitting[v] = fittingItems(v, year);
        }
    }

    private int fittingItems(int v, int year) {
        Voice voice = scene.voice;
        int bits = 0;
        for (int i = 0; i < scene.land.items; i++) {
            int variant = voice.variant[i];
            boolean polite = voice.toClerk[i] && variant == scene.land.standard[i];
            if (variant != NONE && (polite || variant == spread.variantAt(i, year, v))) {
                bits |= 1 << i;
            }
        }
        return bits;
    }

    public int fits(int v, int year) {
        if (!hasVillage(v) || !reachesYear(year)) {
            return NO_SUCH;
        }
        return Integer.bitCount(fittingItems(v, year));
    }

    public int whole(int year) {
        if (!reachesYear(year)) {
            return NO_SUCH;
        }
        return wholeVillages(year);
    }

    private int wholeVillages(int year) {
        fillFitting(year);
        int all = scene.voice.asBits();
        int bits = 0;
        for (int v = 0; v < scene.land.villages; v++) {
            if (fitting[v] == all) {
                bits |= 1 << v;
            }
        }
        return bits;
    }

    public int from(int year) {
        if (!reachesYear(year)) {
            return NO_SUCH;
        }
        fillFitting(year);
        int best = NONE;
        for (int v = 0; v < scene.land.villages; v++) {
            if (best == NONE || Integer.bitCount(fitting[v]) > Integer.bitCount(fitting[best])) {
                best = v;
            }
        }
        return best;
    }

    public int next(int year) {
        if (!reachesYear(year)) {
            return NO_SUCH;
        }
        int left = wholeVillages(year);
        int best = NONE;
        // An ITEM for which all say the same splits nothing, so it never comes below this.
        int least = Integer.bitCount(left);
        for (int i = 0; i < scene.land.items; i++) {
            if (scene.voice.variant[i] == NONE) {
                int most = greatestCamp(i, year, left);
                if (most < least) {
                    least = most;
                    best = i;
                }
            }
        }
        return best;
    }

    private int greatestCamp(int item, int year, int villages) {
        clearTally();
        int most = 0;
        for (int v = 0; v < scene.land.villages; v++) {
            if ((villages >> v & 1) != 0) {
                int variant = spread.variantAt(item, year, v);
                tally[variant]++;
                most = Math.max(most, tally[variant]);
            }
        }
        return most;
    }

    private void clearTally() {
        for (int a = 0; a < VARIANTS; a++) {
            tally[a] = 0;
        }
    }

    public int two(int year) {
        if (!reachesYear(year)) {
            return NO_SUCH;
        }
        fillFitting(year);
        int best = NONE;
        int most = NONE;
        for (int v = 0; v < scene.land.villages; v++) {
            for (int w = v + 1; w < scene.land.villages; w++) {
                int together = Integer.bitCount(fitting[v] | fitting[w]);
                if (together > most) {
                    most = together;
                    best = PAIR_BASE * v + w;
                }
            }
        }
        return best;
    }

    public int nowhere(int year, int what) {
        if (what < 0 || what > 1 || !reachesYear(year)) {
            return NO_SUCH;
        }
        fillFitting(year);
        int all = scene.voice.asBits();
        int found = 0;
        int first = NONE;
        for (int i = 0; i < scene.land.items; i++) {
            for (int j = i + 1; j < scene.land.items; j++) {
                int pair = 1 << i | 1 << j;
                if ((all & pair) == pair && !anyFits(pair)) {
                    found++;
                    if (first == NONE) {
                        first = PAIR_BASE * i + j;
                    }
                }
            }
        }
        return what == 0 ? found : first;
    }

    private boolean anyFits(int items) {
        for (int v = 0; v < scene.land.villages; v++) {
            if ((fitting[v] & items) == items) {
                return true;
            }
        }
        return false;
    }

    // ---- the notebooks

    public int note(int v, int item, int variant, int n) {
        if (!hasVillage(v) || !hasVariant(item, variant) || n < 1 || n > ANSWERS_AT_MOST) {
            return NO_SUCH;
        }
        Notes notes = scene.notes;
        int place = Notes.place(v, item, variant);
        if (notes.answers[place] + n > ANSWERS_AT_MOST) {
            return FULL;
        }
        notes.answers[place] += n;
        notes.all += n;
        return notes.answers[place];
    }

    public int noted(int v, int item, int variant) {
        if (!hasVillage(v) || !hasVariant(item, variant)) {
            return NONE;
        }
        return scene.notes.answers[Notes.place(v, item, variant)];
    }

    public int mostly(int v, int item) {
        if (!hasVillage(v) || !hasItem(item)) {
            return NO_SUCH;
        }
        return scene.notes.commonest(v, item);
    }

    public int off(int item, int year) {
        if (!reachesItem(item, year)) {
            return NO_SUCH;
        }
        int bits = 0;
        for (int v = 0; v < scene.land.villages; v++) {
            int variant = scene.notes.commonest(v, item);
            if (variant != NONE && variant != spread.variantAt(item, year, v)) {
                bits |= 1 << v;
            }
        }
        return bits;
    }

    public long odds(int v, boolean below) {
        if (!hasVillage(v)) {
            return NONE;
        }
        long upper = upperOdds(v);
        long lower = lowerOdds(v);
        long common = commonPart(upper, lower);
        if (common == 0) {
            return NONE;
        }
        return below ? lower / common : upper / common;
    }

    /** At most 10 for each of eight ITEMS, so a long has room. */
    private long upperOdds(int v) {
        long product = 1;
        for (int i = 0; i < scene.land.items; i++) {
            int variant = scene.voice.variant[i];
            if (variant != NONE) {
                product *= scene.notes.answers[Notes.place(v, i, variant)] + 1;
            }
        }
        return product;
    }

    /** At most 50 for each of eight ITEMS, so a long has room. */
    private long lowerOdds(int v) {
        long product = 1;
        for (int i = 0; i < scene.land.items; i++) {
            if (scene.voice.variant[i] != NONE) {
                product *= scene.notes.answersFor(v, i) + scene.land.variants[i];
            }
        }
        return product;
    }

    private static long commonPart(long a, long b) {
        long big = a;
        long small = b;
        for (int step = 0; step < EUCLID_STEPS && small != 0; step++) {
            long rest = big % small;
            big = small;
            small = rest;
        }
        return big;
    }

    public int likely() {
        int best = NONE;
        for (int v = 0; v < scene.land.villages; v++) {
            if (best == NONE || hasGreaterOdds(v, best)) {
                best = v;
            }
        }
        return best;
    }

    public int ahead(int v) {
        if (!hasVillage(v)) {
            return NO_SUCH;
        }
        int found = 0;
        for (int w = 0; w < scene.land.villages; w++) {
            if (hasGreaterOdds(w, v)) {
                found++;
            }
        }
        return found;
    }

    private boolean hasGreaterOdds(int v, int w) {
        return isGreater(upperOdds(v), lowerOdds(v), upperOdds(w), lowerOdds(w));
    }

    /**
     * Whether a / b is above c / d, all of them above 0. The products across would be beyond a long, so whole
     * parts are compared, then what is left over turned upside down, which turns the answer round, too.
     */
    private static boolean isGreater(long a, long b, long c, long d) {
        boolean turnedRound = false;
        for (int step = 0; step < EUCLID_STEPS && b != 0 && d != 0; step++) {
            long first = a / b;
            long second = c / d;
            if (first != second) {
                return first > second != turnedRound;
            }
            long firstRest = a % b;
            long secondRest = c % d;
            if (firstRest == 0 || secondRest == 0) {
                return firstRest != secondRest && firstRest > secondRest != turnedRound;
            }
            a = b;
            b = firstRest;
            c = d;
            d = secondRest;
            turnedRound = !turnedRound;
        }
        return false;
    }

    // ---- the ASKERS

    public int walk(int v, int a) {
        if (!hasVillage(v) || a < NONE || a >= ASKERS) {
            return NO_SUCH;
        }
        int former = scene.notes.walker[v];
        scene.notes.walker[v] = a;
        return former;
    }

    public int leans(int a, int item) {
        if (!isAsker(a) || !hasItem(item)) {
            return NO_SUCH;
        }
        return isLeaning(a, item) ? 1 : 0;
    }

    private boolean isLeaning(int a, int item) {
        Land land = scene.land;
        Notes notes = scene.notes;
        boolean met = false;
        for (int r = 0; r < land.roads; r++) {
            int v = land.roadFrom[r];
            int w = land.roadTo[r];
            int here = notes.commonest(v, item);
            int there = notes.commonest(w, item);
            boolean walked = notes.walker[v] != NONE && notes.walker[w] != NONE;
            if (walked && here != NONE && there != NONE) {
                boolean across = (notes.walker[v] == a) != (notes.walker[w] == a);
                if (across != (here != there)) {
                    return false;
                }
                met = met || across;
            }
        }
        return met;
    }

    public int lean(int a, int item) {
        if (!isAsker(a) || !hasItem(item)) {
            return NO_SUCH;
        }
        if (!isLeaning(a, item)) {
            return NONE;
        }
        clearTally();
        for (int v = 0; v < scene.land.villages; v++) {
            int variant = scene.notes.commonest(v, item);
            if (scene.notes.walker[v] == a && variant != NONE) {
                tally[variant]++;
            }
        }
        int best = 0;
        for (int variant = 1; variant < VARIANTS; variant++) {
            if (tally[variant] > tally[best]) {
                best = variant;
            }
        }
        return best;
    }

    // ---- what there is

    public int village(int v, int what) {
        if (!hasVillage(v)) {
            return NOTHING;
        }
        switch (what) {
            case 0:
                return scene.land.size[v];
            case 1:
                return scene.land.countRoadsAt(v);
            case 2:
                return scene.notes.walker[v];
            default:
                return NOTHING;
        }
    }

    public int count(int what) {
        switch (what) {
            case 0:
                return scene.land.lines;
            case 1:
                return scene.land.villages;
            case 2:
                return scene.land.roads;
            case 3:
                return scene.land.items;
            case 4:
                return scene.land.laws.known;
            case 5:
                return tapeLength;
            case 6:
                return scene.voice.known;
            case 7:
                return scene.notes.all;
            case 8:
                return countRows();
            default:
                return NONE;
        }
    }

    private int countRows() {
        int found = 0;
        for (int s = 0; s < SLOTS; s++) {
            if (slots[s].length != NONE) {
                found++;
            }
        }
        return found;
    }

    // ---- IMAGES

    public int keep(int k) {
        if (k < 0 || k >= IMAGES) {
            return NO_SUCH;
        }
        Scene image = images[k];
        if (image == null) {
            image = new Scene();
            images[k] = image;
        }
        image.copyOf(scene);
        return 0;
    }

    public int back(int k) {
        if (k < 0 || k >= IMAGES) {
            return NO_SUCH;
        }
        Scene image = images[k];
        if (image == null) {
            return EMPTY;
        }
        scene.copyOf(image);
        spread.startWith(scene.land);
        return 0;
    }

    // ---- SLOTS

    public int row(int slot, int width, int n) {
        if (!isSlot(slot) || width < 0 || width >= WIDTHS || n > ROW_AT_MOST) {
            return NO_SUCH;
        }
        if (n < 0) {
            return FULL;
        }
        slots[slot].startRow(width, n);
        return 0;
    }

    public int write(int slot, int i, long v) {
        if (!isSlot(slot)) {
            return NO_SUCH;
        }
        Slot target = slots[slot];
        if (target.length == NONE) {
            return EMPTY;
        }
        if (i < 0 || i >= target.length) {
            return BEYOND;
        }
        target.numbers[i] = target.cut(v);
        return 0;
    }

    public int paste(int slot, int i, int to, int k, int n) {
        if (!isSlot(slot) || !isSlot(to)) {
            return NO_SUCH;
        }
        Slot source = slots[slot];
        Slot target = slots[to];
        if (source.length == NONE || target.length == NONE) {
            return EMPTY;
        }
        if (source.width != target.width) {
            return UNLIKE;
        }
        if (!source.holds(i, n) || !target.holds(k, n)) {
            return BEYOND;
        }
        System.arraycopy(source.numbers, i, target.numbers, k, n);
        return 0;
    }

    // ---- what arguments may be

    private boolean hasVillage(int v) {
        return v >= 0 && v < scene.land.villages;
    }

    private boolean hasItem(int item) {
        return item >= 0 && item < scene.land.items;
    }

    private boolean hasVariant(int item, int variant) {
        return hasItem(item) && variant >= 0 && variant < scene.land.variants[item];
    }

    private static boolean isYear(int year) {
        return year >= 0 && year <= LAST_YEAR;
    }

    private static boolean isAsker(int a) {
        return a >= 0 && a < ASKERS;
    }

    private static boolean isSlot(int slot) {
        return slot >= 0 && slot < SLOTS;
    }

    /** Whether there is such a YEAR; if so, the map of all ITEMS is worked out so far. */
    private boolean reachesYear(int year) {
        if (!isYear(year)) {
            return false;
        }
        for (int i = 0; i < scene.land.items; i++) {
            spread.reach(i, year);
        }
        return true;
    }

    /** Whether there are such an ITEM and YEAR; if so, the map of that ITEM is worked out so far. */
    private boolean reachesItem(int item, int year) {
        if (!hasItem(item) || !isYear(year)) {
            return false;
        }
        spread.reach(item, year);
        return true;
    }

    /** What an IMAGE keeps: the LAND, what is HEARD, what is NOTED and who walked. */
    private static final class Scene {
        Land land = new Land();
        final Voice voice = new Voice();
        final Notes notes = new Notes();

        void copyOf(Scene other) {
            land.copyOf(other.land);
            voice.copyOf(other.voice);
            notes.copyOf(other.notes);
        }
    }

    private static final class Land {
        int lines = 0;
        int villages = 0;
        int roads = 0;
        int items = 0;
        final int[] size = new int[VILLAGES];
        final int[] roadFrom = new int[ROADS];
        final int[] roadTo = new int[ROADS];
        final boolean[] atRiver = new boolean[ROADS];
        // A ROAD between two VILLAGES that a ROAD ahead of it joins already: mass leaves it out.
        final boolean[] again = new boolean[ROADS];
        final int[] variants = new int[ITEMS];
        final int[] standard = new int[ITEMS];
        final int[] told = new int[VILLAGES * ITEMS];
        final Laws laws = new Laws();

        void empty() {
            lines = 0;
            villages = 0;
            roads = 0;
            items = 0;
            for (int p = 0; p < VILLAGES * ITEMS; p++) {
                told[p] = NONE;
            }
            laws.empty();
        }

        void addVillage(int itsSize) {
            if (villages < VILLAGES) {
                size[villages] = itsSize;
                villages++;
            }
            lines++;
        }

        void addRoad(int v, int w, boolean river) {
            if (roads < ROADS) {
                roadFrom[roads] = v;
                roadTo[roads] = w;
                atRiver[roads] = river;
                again[roads] = hasRoad(v, w);
                roads++;
            }
            lines++;
        }

        private boolean hasRoad(int v, int w) {
            for (int r = 0; r < roads; r++) {
                boolean ahead = roadFrom[r] == v && roadTo[r] == w;
                if (ahead || roadFrom[r] == w && roadTo[r] == v) {
                    return true;
                }
            }
            return false;
        }

        void addItem(int itsVariants, int itsStandard) {
            if (items < ITEMS) {
                variants[items] = itsVariants;
                standard[items] = itsStandard;
                items++;
            }
            lines++;
        }

        boolean isTold(int v, int item) {
            return told[v * ITEMS + item] != NONE;
        }

        void tell(int v, int item, int variant) {
            told[v * ITEMS + item] = variant;
            lines++;
        }

        int countRivers() {
            int found = 0;
            for (int r = 0; r < roads; r++) {
                if (atRiver[r]) {
                    found++;
                }
            }
            return found;
        }

        int countRoadsAt(int v) {
            int found = 0;
            for (int r = 0; r < roads; r++) {
                if (roadFrom[r] == v || roadTo[r] == v) {
                    found++;
                }
            }
            return found;
        }

        void copyOf(Land other) {
            lines = other.lines;
            villages = other.villages;
            roads = other.roads;
            items = other.items;
            System.arraycopy(other.size, 0, size, 0, VILLAGES);
            System.arraycopy(other.roadFrom, 0, roadFrom, 0, ROADS);
            System.arraycopy(other.roadTo, 0, roadTo, 0, ROADS);
            System.arraycopy(other.atRiver, 0, atRiver, 0, ROADS);
            System.arraycopy(other.again, 0, again, 0, ROADS);
            System.arraycopy(other.variants, 0, variants, 0, ITEMS);
            System.arraycopy(other.standard, 0, standard, 0, ITEMS);
            System.arraycopy(other.told, 0, told, 0, VILLAGES * ITEMS);
            laws.copyOf(other.laws);
        }
    }

    /** The LAWS; the PARTS of all their SUMS stand in one row, in the order of the TAPE. */
    private static final class Laws {
        int known = 0;
        final int[] item = new int[LAWS];
        final int[] first = new int[LAWS];
        final int[] second = new int[LAWS];
        final int[] sign = new int[LAWS];
        final int[] leftStart = new int[LAWS];
        final int[] rightStart = new int[LAWS];
        final int[] rightStop = new int[LAWS];
        int parts = 0;
        final int[] partJoin = new int[PARTS];
        final int[] partKind = new int[PARTS];
        final int[] partValue = new int[PARTS];

        void empty() {
            known = 0;
            parts = 0;
        }

        boolean areFor(int itsItem) {
            for (int l = 0; l < known; l++) {
                if (item[l] == itsItem) {
                    return true;
                }
            }
            return false;
        }

        void addPart(int join, int kind, int value) {
            if (parts < PARTS) {
                partJoin[parts] = join;
                partKind[parts] = kind;
                partValue[parts] = value;
                parts++;
            }
        }

        void addLaw(int itsItem, int itsFirst, int itsSecond, int itsSign, int left, int right) {
            if (known < LAWS) {
                item[known] = itsItem;
                first[known] = itsFirst;
                second[known] = itsSecond;
                sign[known] = itsSign;
                leftStart[known] = left;
                rightStart[known] = right;
                rightStop[known] = parts;
                known++;
            }
        }

        void copyOf(Laws other) {
            known = other.known;
            parts = other.parts;
            System.arraycopy(other.item, 0, item, 0, LAWS);
            System.arraycopy(other.first, 0, first, 0, LAWS);
            System.arraycopy(other.second, 0, second, 0, LAWS);
            System.arraycopy(other.sign, 0, sign, 0, LAWS);
            System.arraycopy(other.leftStart, 0, leftStart, 0, LAWS);
            System.arraycopy(other.rightStart, 0, rightStart, 0, LAWS);
            System.arraycopy(other.rightStop, 0, rightStop, 0, LAWS);
            System.arraycopy(other.partJoin, 0, partJoin, 0, PARTS);
            System.arraycopy(other.partKind, 0, partKind, 0, PARTS);
            System.arraycopy(other.partValue, 0, partValue, 0, PARTS);
        }
    }

    /** Reads a TAPE from left to right; the first FAULT that it meets is the first by its place, too. */
    private static final class Reader {
        private static final int AT_END = 0;
        private static final int WORD = 1;
        private static final int NUMBER = 2;
        private static final int STOP = 3;
        private static final int NO_TOKEN = 4;
        private static final int HIGHEST_SIZE = 99;
        private static final int HIGHEST_NUMBER = 999;
        // A number of many digits stays at this: above all bounds, and far from an int's end.
        private static final int FAR_ABOVE = 1000000;

        int fault = 0;
        int faultPlace = NONE;
        Land land = new Land();
        private final byte[] tape;
        private int length = 0;
        private int kind = AT_END;
        private int start = 0;
        private int after = 0;
        private int number = 0;

        Reader(byte[] itsTape) {
            tape = itsTape;
        }

        boolean readTape(int n) {
            fault = 0;
            faultPlace = NONE;
            length = Math.min(n, tape.length);
            land.empty();
            after = 0;
            advance();
            for (int i = 0; i < TAPE_BYTES && fault == 0 && kind != AT_END; i++) {
                int first = start;
                if (tryWord("village")) {
                    readVillage(first);
                } else if (tryWord("road")) {
                    readRoad(first);
                } else if (tryWord("item")) {
                    readItem(first);
                } else if (tryWord("says")) {
                    readSaying();
                } else if (tryWord("law")) {
                    readLaw(first);
                } else {
                    refuse(FAULT_TOKEN, first);
                }
            }
            return fault == 0;
        }

        private void readVillage(int first) {
            refuseBeyond(land.villages, VILLAGES, first);
            takeWord("size");
            int size = takeNumber(1, HIGHEST_SIZE);
            takeStop();
            if (fault == 0) {
                land.addVillage(size);
            }
        }

        private void readRoad(int first) {
            refuseBeyond(land.roads, ROADS, first);
            int v = takeNumber(0, land.villages - 1);
            int place = start;
            int w = takeNumber(0, land.villages - 1);
            if (v == w) {
                refuse(FAULT_VALUE, place);
            }
            boolean river = tryWord("river");
            takeStop();
            if (fault == 0) {
                land.addRoad(v, w, river);
            }
        }

        private void readItem(int first) {
            refuseBeyond(land.items, ITEMS, first);
            takeWord("of");
            int variants = takeNumber(2, VARIANTS);
            takeWord("standard");
            int standard = takeNumber(0, variants - 1);
            takeStop();
            if (fault == 0) {
                land.addItem(variants, standard);
            }
        }

        private void readSaying() {
            int v = takeNumber(0, land.villages - 1);
            int place = start;
            int item = takeNumber(0, land.items - 1);
            if (fault == 0 && land.isTold(v, item)) {
                refuse(FAULT_VALUE, place);
            }
            int variant = takeNumber(0, highestVariant(item));
            takeStop();
            if (fault == 0) {
                land.tell(v, item, variant);
            }
        }

        private void readLaw(int first) {
            refuseBeyond(land.laws.known, LAWS, first);
            int item = takeNumber(0, land.items - 1);
            int highest = highestVariant(item);
            int former = takeNumber(0, highest);
            takeWord("to");
            int latter = takeNumber(0, highest);
            takeWord("if");
            int left = land.laws.parts;
            readSum(highest);
            int sign = takeSign();
            int right = land.laws.parts;
            readSum(highest);
            takeStop();
            if (fault == 0) {
                land.laws.addLaw(item, former, latter, sign, left, right);
                land.lines++;
            }
        }

        private void readSum(int highest) {
            int join = JOIN_FIRST;
            for (int i = 0; i < TAPE_BYTES && fault == 0 && join != NONE; i++) {
                readPart(join, highest);
                if (tryWord("times")) {
                    join = JOIN_TIMES;
                } else if (tryWord("plus")) {
                    join = JOIN_PLUS;
                } else if (tryWord("minus")) {
                    join = JOIN_MINUS;
                } else {
                    join = NONE;
                }
            }
        }

        private void readPart(int join, int highest) {
            if (tryWord("near")) {
                land.laws.addPart(join, PART_NEAR, takeNumber(0, highest));
            } else if (tryWord("mass")) {
                land.laws.addPart(join, PART_MASS, takeNumber(0, highest));
            } else if (tryWord("size")) {
                land.laws.addPart(join, PART_SIZE, 0);
            } else if (tryWord("year")) {
                land.laws.addPart(join, PART_YEAR, 0);
            } else {
                land.laws.addPart(join, PART_NUMBER, takeNumber(0, HIGHEST_NUMBER));
            }
        }

        private int takeSign() {
            if (tryWord("more")) {
                return SIGN_MORE;
            }
            if (tryWord("less")) {
                return SIGN_LESS;
            }
            takeWord("same");
            return SIGN_SAME;
        }

        /** NONE behind a FAULT, where the ITEM may be none. */
        private int highestVariant(int item) {
            return item >= 0 && item < land.items ? land.variants[item] - 1 : NONE;
        }

        private int takeNumber(int least, int most) {
            if (fault != 0) {
                return NONE;
            }
            if (kind != NUMBER) {
                refuse(FAULT_TOKEN, start);
                return NONE;
            }
            if (number < least || number > most) {
                refuse(FAULT_VALUE, start);
                return NONE;
            }
            int taken = number;
            advance();
            return taken;
        }

        private void takeWord(String word) {
            if (!tryWord(word)) {
                refuse(FAULT_TOKEN, start);
            }
        }

        private void takeStop() {
            if (kind == STOP) {
                advance();
            } else {
                refuse(FAULT_TOKEN, start);
            }
        }

        private boolean tryWord(String word) {
            if (kind != WORD || after - start != word.length()) {
                return false;
            }
            for (int i = 0; i < word.length(); i++) {
                if (tape[start + i] != word.charAt(i)) {
                    return false;
                }
            }
            advance();
            return true;
        }

        private void refuseBeyond(int known, int most, int place) {
            if (known >= most) {
                refuse(FAULT_LIMIT, place);
            }
        }

        /** What is read behind the first FAULT is no matter any more. */
        private void refuse(int itsFault, int place) {
            if (fault == 0) {
                fault = itsFault;
                faultPlace = place;
            }
        }

        private void advance() {
            int p = after;
            while (p < length && (tape[p] == ' ' || tape[p] == '\n')) {
                p++;
            }
            start = p;
            kind = AT_END;
            number = 0;
            if (p < length) {
                kind = kindOf(tape[p]);
                boolean longer = kind == WORD || kind == NUMBER;
                if (kind == NUMBER) {
                    number = tape[p] - '0';
                }
                p++;
                while (longer && p < length && kindOf(tape[p]) == kind) {
                    if (kind == NUMBER) {
                        number = Math.min(number * 10 + tape[p] - '0', FAR_ABOVE);
                    }
                    p++;
                }
            }
            after = p;
        }

        private static int kindOf(byte sign) {
            if (sign >= 'a' && sign <= 'z') {
                return WORD;
            }
            if (sign >= '0' && sign <= '9') {
                return NUMBER;
            }
            return sign == ';' ? STOP : NO_TOKEN;
        }
    }

    /** THE MAP, worked out ITEM by ITEM and no further than the YEAR that was asked for. */
    private static final class Spread {
        private static final long BOUND = 1000000000L;
        private static final long TOO_FAR = Long.MAX_VALUE;

        private Land land;
        // NONE ahead of YEAR 0.
        private final int[] reached = new int[ITEMS];
        final int[] stillFrom = new int[ITEMS];
        private final byte[] variants = new byte[ITEMS * YEARS * VILLAGES];
        private final int[] near = new int[VILLAGES * VARIANTS];
        private final int[] mass = new int[VILLAGES * VARIANTS];

        Spread(Land itsLand) {
            land = itsLand;
            startWith(itsLand);
        }

        void startWith(Land itsLand) {
            land = itsLand;
            for (int i = 0; i < ITEMS; i++) {
                reached[i] = NONE;
                stillFrom[i] = 0;
            }
        }

        int variantAt(int item, int year, int v) {
            return variants[placeOf(item, year) + v];
        }

        private static int placeOf(int item, int year) {
            return (item * YEARS + year) * VILLAGES;
        }

        void reach(int item, int year) {
            if (reached[item] == NONE) {
                startYears(item);
            }
            boolean lawful = land.laws.areFor(item);
            for (int y = reached[item]; y < year && y < LAST_YEAR; y++) {
                if (lawful) {
                    countNeighbours(item, y);
                }
                for (int v = 0; v < land.villages; v++) {
                    int law = lawful ? turningLaw(item, y, v) : NONE;
                    int then = variantAt(item, y, v);
                    if (law != NONE) {
                        then = land.laws.second[law];
                        stillFrom[item] = y + 1;
                    }
                    variants[placeOf(item, y + 1) + v] = (byte) then;
                }
                reached[item] = y + 1;
            }
        }

        private void startYears(int item) {
            int place = placeOf(item, 0);
            for (int v = 0; v < land.villages; v++) {
                variants[place + v] = (byte) (land.isTold(v, item) ? land.told[v * ITEMS + item] : 0);
            }
            reached[item] = 0;
        }

        /** Once for a YEAR, as many PARTS of many LAWS may ask for the same. */
        void countNeighbours(int item, int year) {
            for (int p = 0; p < land.villages * VARIANTS; p++) {
                near[p] = 0;
                mass[p] = 0;
            }
            for (int r = 0; r < land.roads; r++) {
                meet(land.roadFrom[r], land.roadTo[r], item, year, land.again[r]);
                meet(land.roadTo[r], land.roadFrom[r], item, year, land.again[r]);
            }
        }

        private void meet(int v, int other, int item, int year, boolean again) {
            int p = v * VARIANTS + variantAt(item, year, other);
            near[p]++;
            if (!again) {
                mass[p] += land.size[other];
            }
        }

        /** The first LAW by which VILLAGE v turns; its neighbours of that YEAR are counted ahead of it. */
        int turningLaw(int item, int year, int v) {
            Laws laws = land.laws;
            int variant = variantAt(item, year, v);
            for (int l = 0; l < laws.known; l++) {
                if (laws.item[l] == item && laws.first[l] == variant && isHolding(l, year, v)) {
                    return l;
                }
            }
            return NONE;
        }

        private boolean isHolding(int law, int year, int v) {
            Laws laws = land.laws;
            long left = workOut(laws.leftStart[law], laws.rightStart[law], year, v);
            long right = workOut(laws.rightStart[law], laws.rightStop[law], year, v);
            if (left == TOO_FAR || right == TOO_FAR) {
                return false;
            }
            switch (laws.sign[law]) {
                case SIGN_MORE:
                    return left > right;
                case SIGN_LESS:
                    return left < right;
                default:
                    return left == right;
            }
        }

        private long workOut(int startPart, int stopPart, int year, int v) {
            long total = 0;
            long product = 0;
            int sign = 1;
            for (int p = startPart; p < stopPart; p++) {
                int join = land.laws.partJoin[p];
                long value = valueOf(p, year, v);
                if (join == JOIN_TIMES) {
                    product *= value;
                } else {
                    total += sign * product;
                    sign = join == JOIN_MINUS ? -1 : 1;
                    product = value;
                }
                if (product > BOUND || total > BOUND || total < -BOUND) {
                    return TOO_FAR;
                }
            }
            total += sign * product;
            return total > BOUND || total < -BOUND ? TOO_FAR : total;
        }

        private long valueOf(int part, int year, int v) {
            int value = land.laws.partValue[part];
            switch (land.laws.partKind[part]) {
                case PART_NEAR:
                    return near[v * VARIANTS + value];
                case PART_MASS:
                    return mass[v * VARIANTS + value];
                case PART_SIZE:
                    return land.size[v];
                case PART_YEAR:
                    return year;
                default:
                    return value;
            }
        }
    }

    /** What is HEARD. */
    private static final class Voice {
        int known = 0;
        final int[] variant = new int[ITEMS];
        final boolean[] toClerk = new boolean[ITEMS];

        Voice() {
            forget();
        }

        void forget() {
            known = 0;
            for (int i = 0; i < ITEMS; i++) {
                variant[i] = NONE;
                toClerk[i] = false;
            }
        }

        int asBits() {
            int bits = 0;
            for (int i = 0; i < ITEMS; i++) {
                if (variant[i] != NONE) {
                    bits |= 1 << i;
                }
            }
            return bits;
        }

        void copyOf(Voice other) {
            known = other.known;
            System.arraycopy(other.variant, 0, variant, 0, ITEMS);
            System.arraycopy(other.toClerk, 0, toClerk, 0, ITEMS);
        }
    }

    /** What is NOTED, and who walked. */
    private static final class Notes {
        private static final int ANSWERS = VILLAGES * ITEMS * VARIANTS;

        int all = 0;
        final int[] answers = new int[ANSWERS];
        final int[] walker = new int[VILLAGES];

        Notes() {
            forget();
        }

        void forget() {
            all = 0;
            for (int p = 0; p < ANSWERS; p++) {
                answers[p] = 0;
            }
            for (int v = 0; v < VILLAGES; v++) {
                walker[v] = NONE;
            }
        }

        static int place(int v, int item, int variant) {
            return (v * ITEMS + item) * VARIANTS + variant;
        }

        int answersFor(int v, int item) {
            int sum = 0;
            for (int a = 0; a < VARIANTS; a++) {
                sum += answers[place(v, item, a)];
            }
            return sum;
        }

        int commonest(int v, int item) {
            int best = NONE;
            int most = 0;
            for (int a = 0; a < VARIANTS; a++) {
                int here = answers[place(v, item, a)];
                if (here > most) {
                    most = here;
                    best = a;
                }
            }
            return best;
        }

        void copyOf(Notes other) {
            all = other.all;
            System.arraycopy(other.answers, 0, answers, 0, ANSWERS);
            System.arraycopy(other.walker, 0, walker, 0, VILLAGES);
        }
    }

    /** A SLOT; its length is NONE while it has nothing. */
    private static final class Slot {
        int width = 0;
        int length = NONE;
        final long[] numbers = new long[ROW_AT_MOST];

        void startRow(int itsWidth, int n) {
            width = itsWidth;
            length = n;
            for (int i = 0; i < ROW_AT_MOST; i++) {
                numbers[i] = 0;
            }
        }

        long cut(long value) {
            switch (width) {
                case 0:
                    return (byte) value;
                case 1:
                    return (short) value;
                case 2:
                    return (int) value;
                default:
                    return value;
            }
        }

        /** By a difference, as a sum of two places may be beyond an int. */
        boolean holds(int place, int n) {
            return place >= 0 && n >= 0 && place <= length && n <= length - place;
        }
    }
}
