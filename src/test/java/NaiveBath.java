import java.math.BigInteger;
import java.util.ArrayList;
import java.util.Arrays;
import java.util.HashMap;
import java.util.HashSet;
import java.util.List;
import java.util.Map;
import java.util.Set;
import java.util.TreeMap;
import java.util.TreeSet;

/** The document once more, written for plainness alone: what random runs are held against. */
final class NaiveBath {
    static final int NONE = -1;

    record Road(int v, int w, boolean river) {
        boolean joins(int a, int b) {
            return v == a && w == b || v == b && w == a;
        }
    }

    record Item(int of, int standard) {
    }

    record Part(String word, int number) {
    }

    /** A TERM with the sign that stands ahead of it. */
    record Term(boolean minus, List<Part> parts) {
    }

    record Law(int item, int a, int b, List<Term> left, String sign, List<Term> right) {
    }

    static final class Fault extends RuntimeException {
        private static final long serialVersionUID = 1L;
        final int kind;
        final int place;

        Fault(int kind, int place) {
            this.kind = kind;
            this.place = place;
        }
    }

    static final class TooFar extends RuntimeException {
        private static final long serialVersionUID = 1L;
    }

    static final class World {
        int lines = 0;
        final List<Integer> sizes = new ArrayList<>();
        final List<Road> roads = new ArrayList<>();
        final List<Item> items = new ArrayList<>();
        final List<Law> laws = new ArrayList<>();
        final Map<List<Integer>, Integer> told = new HashMap<>();
        final TreeMap<Integer, Integer> heard = new TreeMap<>();
        final Set<Integer> clerk = new TreeSet<>();
        final Map<List<Integer>, Integer> notes = new HashMap<>();
        final Map<Integer, Integer> walked = new HashMap<>();
        int[][][] map = null;
        int[][][] turns = null;

        World copy() {
            World c = new World();
            c.lines = lines;
            c.sizes.addAll(sizes);
            c.roads.addAll(roads);
            c.items.addAll(items);
            c.laws.addAll(laws);
            c.told.putAll(told);
            c.heard.putAll(heard);
            c.clerk.addAll(clerk);
            c.notes.putAll(notes);
            c.walked.putAll(walked);
            return c;
        }
    }

    private final List<Integer> tape = new ArrayList<>();
    private World world = new World();
    private int fault = 0;
    private int faultPlace = NONE;
    private final World[] images = new World[3];
    private final long[][] rows = new long[4][];
    private final int[] widths = new int[4];

    // ---- reading

    private record Token(String text, int place) {
    }

    private static List<Token> tokens(List<Integer> bytes) {
        List<Token> result = new ArrayList<>();
        int at = 0;
        while (at < bytes.size()) {
            char c = (char) (int) bytes.get(at);
            if (c == ' ' || c == '\n') {
                at++;
                continue;
            }
            StringBuilder text = new StringBuilder();
            text.append(c);
            int begin = at++;
            String more = c >= 'a' && c <= 'z' ? "[a-z]" : c >= '0' && c <= '9' ? "[0-9]" : "";
            while (!more.isEmpty() && at < bytes.size() && ("" + (char) (int) bytes.get(at)).matches(more)) {
                text.append((char) (int) bytes.get(at++));
            }
            result.add(new Token(text.toString(), begin));
        }
        result.add(new Token("", bytes.size()));
        return result;
    }

    private static final class Parser {
        final List<Token> tokens;
        final World w = new World();
        int at = 0;

        Parser(List<Token> tokens) {
            this.tokens = tokens;
        }

        Token here() {
            return tokens.get(at);
        }

        void word(String text) {
            if (!here().text().equals(text)) {
                throw new Fault(1, here().place());
            }
            at++;
        }

        boolean maybe(String text) {
            boolean is = here().text().equals(text);
            at += is ? 1 : 0;
            return is;
        }

        int number(int low, int high) {
            if (!here().text().matches("[0-9]+")) {
                throw new Fault(1, here().place());
            }
            BigInteger n = new BigInteger(here().text());
            if (n.compareTo(BigInteger.valueOf(low)) < 0 || n.compareTo(BigInteger.valueOf(high)) > 0) {
                throw new Fault(2, here().place());
            }
            at++;
            return n.intValueExact();
        }

        void limit(int known, int most, int place) {
            if (known == most) {
                throw new Fault(3, place);
            }
        }

        World all() {
            while (!here().text().isEmpty()) {
                line();
                word(";");
                w.lines++;
            }
            return w;
        }

        void line() {
            int place = here().place();
            if (maybe("village")) {
                limit(w.sizes.size(), 24, place);
                word("size");
                w.sizes.add(number(1, 99));
            } else if (maybe("road")) {
                limit(w.roads.size(), 40, place);
                int a = number(0, w.sizes.size() - 1);
                int second = here().place();
                int b = number(0, w.sizes.size() - 1);
                if (a == b) {
                    throw new Fault(2, second);
                }
                w.roads.add(new Road(a, b, maybe("river")));
            } else if (maybe("item")) {
                limit(w.items.size(), 10, place);
                word("of");
                int of = number(2, 5);
                word("standard");
                w.items.add(new Item(of, number(0, of - 1)));
            } else if (maybe("says")) {
                int v = number(0, w.sizes.size() - 1);
                int second = here().place();
                int i = number(0, w.items.size() - 1);
                if (w.told.containsKey(List.of(v, i))) {
                    throw new Fault(2, second);
                }
                w.told.put(List.of(v, i), number(0, w.items.get(i).of() - 1));
            } else if (maybe("law")) {
                limit(w.laws.size(), 20, place);
                law();
            } else {
                throw new Fault(1, place);
            }
        }

        void law() {
            int i = number(0, w.items.size() - 1);
            int of = w.items.get(i).of();
            int a = number(0, of - 1);
            word("to");
            int b = number(0, of - 1);
            word("if");
            List<Term> left = sum(of);
            String sign = here().text();
            if (!List.of("more", "less", "same").contains(sign)) {
                throw new Fault(1, here().place());
            }
            at++;
            w.laws.add(new Law(i, a, b, left, sign, sum(of)));
        }

        List<Term> sum(int of) {
            List<Term> terms = new ArrayList<>();
            terms.add(new Term(false, term(of)));
            while (here().text().equals("plus") || here().text().equals("minus")) {
                boolean minus = here().text().equals("minus");
                at++;
                terms.add(new Term(minus, term(of)));
            }
            return terms;
        }

        List<Part> term(int of) {
            List<Part> parts = new ArrayList<>();
            parts.add(part(of));
            while (maybe("times")) {
                parts.add(part(of));
            }
            return parts;
        }

        Part part(int of) {
            for (String word : List.of("near", "mass")) {
                if (maybe(word)) {
                    return new Part(word, number(0, of - 1));
                }
            }
            for (String word : List.of("size", "year")) {
                if (maybe(word)) {
                    return new Part(word, 0);
                }
            }
            return new Part("number", number(0, 999));
        }
    }

    int feed(int... numbers) {
        if (tape.size() + 20 > 1200) {
            return NONE;
        }
        for (int n : numbers) {
            for (byte b : BigInteger.valueOf((n & 0xffffffffL) | 1L << 32).toByteArray()) {
                tape.add(b & 255);
            }
            tape.remove(tape.size() - 5);
        }
        return tape.size();
    }

    int end(int n) {
        if (n < 0 || n > tape.size()) {
            return NONE;
        }
        while (tape.size() > n) {
            tape.remove(tape.size() - 1);
        }
        return n;
    }

    int land() {
        List<Token> tokens = tokens(tape);
        tape.clear();
        try {
            world = new Parser(tokens).all();
            fault = 0;
            faultPlace = NONE;
            return world.lines;
        } catch (Fault f) {
            fault = f.kind;
            faultPlace = f.place;
            return -4;
        }
    }

    int fault(int what) {
        return what == 0 ? fault : what == 1 ? faultPlace : NONE;
    }

    // ---- the map

    private int villages() {
        return world.sizes.size();
    }

    private boolean noVillage(int v) {
        return v < 0 || v >= villages();
    }

    private boolean noItem(int i) {
        return i < 0 || i >= world.items.size();
    }

    private boolean noVariant(int i, int a) {
        return noItem(i) || a < 0 || a >= world.items.get(i).of();
    }

    private static boolean noYear(int y) {
        return y < 0 || y > 60;
    }

    private void draw() {
        if (world.map != null) {
            return;
        }
        world.map = new int[61][villages()][world.items.size()];
        world.turns = new int[60][villages()][world.items.size()];
        for (int v = 0; v < villages(); v++) {
            for (int i = 0; i < world.items.size(); i++) {
                world.map[0][v][i] = world.told.getOrDefault(List.of(v, i), 0);
            }
        }
        for (int y = 0; y < 60; y++) {
            for (int v = 0; v < villages(); v++) {
                for (int i = 0; i < world.items.size(); i++) {
                    int law = turning(v, i, y);
                    world.turns[y][v][i] = law;
                    world.map[y + 1][v][i] = law == NONE ? world.map[y][v][i] : world.laws.get(law).b();
                }
            }
        }
    }

    private int turning(int v, int i, int y) {
        for (int l = 0; l < world.laws.size(); l++) {
            Law law = world.laws.get(l);
            if (law.item() == i && law.a() == world.map[y][v][i] && holds(law, v, y)) {
                return l;
            }
        }
        return NONE;
    }

    private boolean holds(Law law, int v, int y) {
        try {
            int c = value(law.left(), law.item(), v, y).compareTo(value(law.right(), law.item(), v, y));
            return law.sign().equals("more") ? c > 0 : law.sign().equals("less") ? c < 0 : c == 0;
        } catch (TooFar far) {
            return false;
        }
    }

    private static BigInteger near(BigInteger n) {
        if (n.abs().compareTo(BigInteger.valueOf(1_000_000_000L)) > 0) {
            throw new TooFar();
        }
        return n;
    }

    private BigInteger value(List<Term> sum, int item, int v, int y) {
        BigInteger result = null;
        for (Term t : sum) {
            BigInteger product = null;
            for (Part p : t.parts()) {
                BigInteger x = BigInteger.valueOf(value(p, item, v, y));
                product = product == null ? x : near(product.multiply(x));
            }
            result = result == null ? product : near(t.minus() ? result.subtract(product) : result.add(product));
        }
        return result;
    }

    private int value(Part p, int item, int v, int y) {
        List<Integer> others = new ArrayList<>();
        for (Road r : world.roads) {
            int other = r.v() == v ? r.w() : r.w() == v ? r.v() : NONE;
            if (other != NONE && world.map[y][other][item] == p.number()) {
                others.add(other);
            }
        }
        return switch (p.word()) {
            case "near" -> others.size();
            case "mass" -> new HashSet<>(others).stream().mapToInt(world.sizes::get).sum();
            case "size" -> world.sizes.get(v);
            case "year" -> y;
            default -> p.number();
        };
    }

    private int map(int v, int i, int y) {
        draw();
        return world.map[y][v][i];
    }

    int says(int v, int i, int y) {
        return noVillage(v) || noItem(i) || noYear(y) ? NONE : map(v, i, y);
    }

    int turned(int v, int i, int y) {
        if (noVillage(v) || noItem(i) || y < 0 || y > 59) {
            return -2;
        }
        draw();
        return world.turns[y][v][i];
    }

    private boolean line(Road r, int i, int y) {
        return map(r.v(), i, y) != map(r.w(), i, y);
    }

    int lines(int i, int y) {
        return noItem(i) || noYear(y) ? -2 : (int) world.roads.stream().filter(r -> line(r, i, y)).count();
    }

    int bundle(int road, int y) {
        if (road < 0 || road >= world.roads.size() || noYear(y)) {
            return -2;
        }
        int sum = 0;
        for (int i = 0; i < world.items.size(); i++) {
            sum += line(world.roads.get(road), i, y) ? 1 : 0;
        }
        return sum;
    }

    int thick(int y) {
        if (noYear(y)) {
            return -2;
        }
        for (int b = 10; b >= 0; b--) {
            for (int r = 0; r < world.roads.size(); r++) {
                if (bundle(r, y) == b) {
                    return r;
                }
            }
        }
        return NONE;
    }

    int crossed(int k, int y) {
        if (k < 0 || k > 10 || noYear(y)) {
            return -2;
        }
        int sum = 0;
        for (int r = 0; r < world.roads.size(); r++) {
            sum += bundle(r, y) >= k ? 1 : 0;
        }
        return sum;
    }

    private Set<Integer> reach(int v, int k, int y, Set<Integer> seen) {
        if (seen.add(v)) {
            for (int r = 0; r < world.roads.size(); r++) {
                Road road = world.roads.get(r);
                if (bundle(r, y) < k && (road.v() == v || road.w() == v)) {
                    reach(road.v() + road.w() - v, k, y, seen);
                }
            }
        }
        return seen;
    }

    int areas(int k, int y) {
        if (k < 1 || k > 11 || noYear(y)) {
            return -2;
        }
        Set<Set<Integer>> found = new HashSet<>();
        for (int v = 0; v < villages(); v++) {
            found.add(reach(v, k, y, new TreeSet<>()));
        }
        return found.size();
    }

    int area(int v, int k, int y) {
        return noVillage(v) || k < 1 || k > 11 || noYear(y) ? -2 : reach(v, k, y, new TreeSet<>()).iterator().next();
    }

    int moved(int i, int a, int b) {
        if (noItem(i) || noYear(a) || noYear(b)) {
            return -2;
        }
        int bits = 0;
        for (int v = 0; v < villages(); v++) {
            bits += map(v, i, a) != map(v, i, b) ? 1 << v : 0;
        }
        return bits;
    }

    int still(int i) {
        if (noItem(i)) {
            return -2;
        }
        draw();
        int y = 60;
        while (y > 0) {
            for (int v = 0; v < villages(); v++) {
                if (world.turns[y - 1][v][i] != NONE) {
                    return y;
                }
            }
            y--;
        }
        return 0;
    }

    private static BigInteger choose(int n, int k) {
        BigInteger[] row = new BigInteger[n + 1];
        Arrays.fill(row, BigInteger.ZERO);
        row[0] = BigInteger.ONE;
        for (int i = 1; i <= n; i++) {
            for (int j = i; j > 0; j--) {
                row[j] = row[j].add(row[j - 1]);
            }
        }
        return k < 0 || k > n ? BigInteger.ZERO : row[k];
    }

    long river(int i, int y, int what) {
        if (noItem(i) || noYear(y) || what < 0 || what > 2) {
            return -2;
        }
        int at = (int) world.roads.stream().filter(r -> r.river() && line(r, i, y)).count();
        int all = lines(i, y);
        int rivers = (int) world.roads.stream().filter(Road::river).count();
        BigInteger sum = BigInteger.ZERO;
        for (int j = what == 2 ? 0 : at; j <= all; j++) {
            sum = sum.add(choose(rivers, j).multiply(choose(world.roads.size() - rivers, all - j)));
        }
        return what == 0 ? at : sum.longValueExact();
    }

    private boolean told(int v, int w, int set, int y) {
        for (int i = 0; i < world.items.size(); i++) {
            if ((set >> i & 1) == 1 && map(v, i, y) != map(w, i, y)) {
                return true;
            }
        }
        return false;
    }

    /** For all pairs, or for those with one VILLAGE. */
    private int fewest(int only, int y) {
        for (int many = 0; many <= world.items.size(); many++) {
            for (int set = 0; set < 1 << world.items.size(); set++) {
                boolean good = Integer.bitCount(set) == many;
                for (int v = 0; v < villages() && good; v++) {
                    for (int w = 0; w < villages() && good; w++) {
                        good = v == w || only != NONE && only != v || told(v, w, set, y);
                    }
                }
                if (good) {
                    return set;
                }
            }
        }
        return NONE;
    }

    int tells(int y) {
        return noYear(y) ? -2 : fewest(NONE, y);
    }

    int alone(int v, int y) {
        return noVillage(v) || noYear(y) ? -2 : fewest(v, y);
    }

    // ---- the voice

    int hear(int i, int a, boolean toClerk) {
        if (noVariant(i, a)) {
            return -2;
        }
        if (!world.heard.containsKey(i) && world.heard.size() == 8) {
            return -3;
        }
        world.heard.put(i, a);
        world.clerk.remove(i);
        if (toClerk) {
            world.clerk.add(i);
        }
        return world.heard.size();
    }

    int hears(int slot) {
        if (slot < 0 || slot > 3) {
            return -2;
        }
        if (rows[slot] == null) {
            return -6;
        }
        int taken = 0;
        for (int p = 0; p < rows[slot].length / 2; p++) {
            long i = rows[slot][2 * p];
            long a = rows[slot][2 * p + 1];
            if ((int) i == i && (int) a == a && hear((int) i, (int) a, false) > 0) {
                taken++;
            }
        }
        return taken;
    }

    int mute() {
        int were = world.heard.size();
        world.heard.clear();
        world.clerk.clear();
        return were;
    }

    int heard(int i) {
        if (noItem(i)) {
            return -2;
        }
        return world.heard.containsKey(i) ? world.heard.get(i) + (world.clerk.contains(i) ? 100 : 0) : NONE;
    }

    private boolean fitsOne(int v, int i, int y) {
        int a = world.heard.get(i);
        return map(v, i, y) == a || world.clerk.contains(i) && world.items.get(i).standard() == a;
    }

    int fits(int v, int y) {
        if (noVillage(v) || noYear(y)) {
            return -2;
        }
        return (int) world.heard.keySet().stream().filter(i -> fitsOne(v, i, y)).count();
    }

    int whole(int y) {
        if (noYear(y)) {
            return -2;
        }
        int bits = 0;
        for (int v = 0; v < villages(); v++) {
            bits += fits(v, y) == world.heard.size() ? 1 << v : 0;
        }
        return bits;
    }

    int from(int y) {
        if (noYear(y)) {
            return -2;
        }
        for (int many = 8; many >= 0; many--) {
            for (int v = 0; v < villages(); v++) {
                if (fits(v, y) == many) {
                    return v;
                }
            }
        }
        return NONE;
    }

    int next(int y) {
        if (noYear(y)) {
            return -2;
        }
        int whole = whole(y);
        int best = NONE;
        int least = 1000;
        boolean unlike = false;
        for (int i = 0; i < world.items.size(); i++) {
            if (world.heard.containsKey(i)) {
                continue;
            }
            Map<Integer, Integer> camps = new HashMap<>();
            for (int v = 0; v < villages(); v++) {
                if ((whole >> v & 1) == 1) {
                    camps.merge(map(v, i, y), 1, Integer::sum);
                }
            }
            unlike |= camps.size() > 1;
            int most = camps.values().stream().mapToInt(x -> x).max().orElse(0);
            if (most < least) {
                least = most;
                best = i;
            }
        }
        return unlike ? best : NONE;
    }

    int two(int y) {
        if (noYear(y)) {
            return -2;
        }
        for (int many = 8; many >= 0; many--) {
            for (int v = 0; v < villages(); v++) {
                for (int w = v + 1; w < villages(); w++) {
                    int a = v;
                    int b = w;
                    if (world.heard.keySet().stream().filter(i -> fitsOne(a, i, y) || fitsOne(b, i, y)).count() == many) {
                        return 100 * v + w;
                    }
                }
            }
        }
        return NONE;
    }

    int nowhere(int y, int what) {
        if (noYear(y) || what < 0 || what > 1) {
            return -2;
        }
        List<Integer> pairs = new ArrayList<>();
        for (int i : world.heard.keySet()) {
            for (int j : world.heard.keySet()) {
                boolean somewhere = false;
                for (int v = 0; v < villages(); v++) {
                    somewhere |= fitsOne(v, i, y) && fitsOne(v, j, y);
                }
                if (i < j && !somewhere) {
                    pairs.add(100 * i + j);
                }
            }
        }
        return what == 0 ? pairs.size() : pairs.stream().mapToInt(x -> x).min().orElse(NONE);
    }

    // ---- the notebooks

    int note(int v, int i, int a, int n) {
        if (noVillage(v) || noVariant(i, a) || n < 1 || n > 9) {
            return -2;
        }
        int then = world.notes.getOrDefault(List.of(v, i, a), 0) + n;
        if (then > 9) {
            return -3;
        }
        world.notes.put(List.of(v, i, a), then);
        return then;
    }

    int noted(int v, int i, int a) {
        return noVillage(v) || noVariant(i, a) ? NONE : world.notes.getOrDefault(List.of(v, i, a), 0);
    }

    int mostly(int v, int i) {
        if (noVillage(v) || noItem(i)) {
            return -2;
        }
        for (int many = 9; many > 0; many--) {
            for (int a = 0; a < 5; a++) {
                if (noted(v, i, a) == many) {
                    return a;
                }
            }
        }
        return NONE;
    }

    int off(int i, int y) {
        if (noItem(i) || noYear(y)) {
            return -2;
        }
        int bits = 0;
        for (int v = 0; v < villages(); v++) {
            bits += mostly(v, i) != NONE && mostly(v, i) != map(v, i, y) ? 1 << v : 0;
        }
        return bits;
    }

    private BigInteger[] fraction(int v) {
        BigInteger up = BigInteger.ONE;
        BigInteger low = BigInteger.ONE;
        for (Map.Entry<Integer, Integer> e : world.heard.entrySet()) {
            int all = world.items.get(e.getKey()).of();
            for (int a = 0; a < world.items.get(e.getKey()).of(); a++) {
                all += noted(v, e.getKey(), a);
            }
            up = up.multiply(BigInteger.valueOf(noted(v, e.getKey(), e.getValue()) + 1));
            low = low.multiply(BigInteger.valueOf(all));
        }
        BigInteger common = up.gcd(low);
        return new BigInteger[] {up.divide(common), low.divide(common)};
    }

    long odds(int v, boolean below) {
        return noVillage(v) ? NONE : fraction(v)[below ? 1 : 0].longValueExact();
    }

    int ahead(int v) {
        if (noVillage(v)) {
            return -2;
        }
        int sum = 0;
        for (int w = 0; w < villages(); w++) {
            BigInteger mine = fraction(v)[0].multiply(fraction(w)[1]);
            sum += fraction(w)[0].multiply(fraction(v)[1]).compareTo(mine) > 0 ? 1 : 0;
        }
        return sum;
    }

    int likely() {
        for (int v = 0; v < villages(); v++) {
            if (ahead(v) == 0) {
                return v;
            }
        }
        return NONE;
    }

    // ---- the ASKERS

    int walk(int v, int a) {
        if (noVillage(v) || a < -1 || a > 5) {
            return -2;
        }
        Integer was = a == NONE ? world.walked.remove(v) : world.walked.put(v, a);
        return was == null ? NONE : was;
    }

    int leans(int a, int i) {
        if (a < 0 || a > 5 || noItem(i)) {
            return -2;
        }
        List<Road> across = new ArrayList<>();
        List<Road> within = new ArrayList<>();
        for (Road r : world.roads) {
            Integer x = world.walked.get(r.v());
            Integer y = world.walked.get(r.w());
            if (x == null || y == null || mostly(r.v(), i) == NONE || mostly(r.w(), i) == NONE) {
                continue;
            }
            if (x == a && y == a || x != a && y != a) {
                within.add(r);
            } else {
                across.add(r);
            }
        }
        boolean leans = !across.isEmpty()
                && across.stream().allMatch(r -> mostly(r.v(), i) != mostly(r.w(), i))
                && within.stream().noneMatch(r -> mostly(r.v(), i) != mostly(r.w(), i));
        return leans ? 1 : 0;
    }

    int lean(int a, int i) {
        int leans = leans(a, i);
        if (leans != 1) {
            return leans == 0 ? NONE : leans;
        }
        int best = NONE;
        int most = 0;
        for (int variant = 4; variant >= 0; variant--) {
            int many = 0;
            for (int v = 0; v < villages(); v++) {
                many += world.walked.getOrDefault(v, NONE) == a && mostly(v, i) == variant ? 1 : 0;
            }
            if (many > 0 && many >= most) {
                most = many;
                best = variant;
            }
        }
        return best;
    }

    // ---- what there is, IMAGES, SLOTS

    int village(int v, int what) {
        if (noVillage(v) || what < 0 || what > 2) {
            return -2_000_000_000;
        }
        int roads = (int) world.roads.stream().filter(r -> r.v() == v || r.w() == v).count();
        return what == 0 ? world.sizes.get(v) : what == 1 ? roads : world.walked.getOrDefault(v, NONE);
    }

    int count(int what) {
        int notes = world.notes.values().stream().mapToInt(x -> x).sum();
        int rowed = (int) Arrays.stream(rows).filter(r -> r != null).count();
        int[] all = {world.lines, villages(), world.roads.size(), world.items.size(), world.laws.size(), tape.size(),
            world.heard.size(), notes, rowed};
        return what < 0 || what >= all.length ? NONE : all[what];
    }

    int keep(int k) {
        if (k < 0 || k > 2) {
            return -2;
        }
        images[k] = world.copy();
        return 0;
    }

    int back(int k) {
        if (k < 0 || k > 2) {
            return -2;
        }
        if (images[k] == null) {
            return -6;
        }
        world = images[k].copy();
        return 0;
    }

    int row(int slot, int width, int n) {
        if (slot < 0 || slot > 3 || width < 0 || width > 3 || n > 60) {
            return -2;
        }
        if (n < 0) {
            return -3;
        }
        rows[slot] = new long[n];
        widths[slot] = width;
        return 0;
    }

    int write(int slot, int i, long v) {
        if (slot < 0 || slot > 3) {
            return -2;
        }
        if (rows[slot] == null) {
            return -6;
        }
        if (i < 0 || i >= rows[slot].length) {
            return -7;
        }
        int rest = 64 - (8 << widths[slot]);
        rows[slot][i] = v << rest >> rest;
        return 0;
    }

    int paste(int slot, int i, int to, int k, int n) {
        if (slot < 0 || slot > 3 || to < 0 || to > 3) {
            return -2;
        }
        if (rows[slot] == null || rows[to] == null) {
            return -6;
        }
        if (widths[slot] != widths[to]) {
            return -8;
        }
        if (i < 0 || k < 0 || n < 0 || (long) i + n > rows[slot].length || (long) k + n > rows[to].length) {
            return -7;
        }
        long[] taken = Arrays.copyOfRange(rows[slot], i, i + n);
        for (int j = 0; j < n; j++) {
            rows[to][k + j] = taken[j];
        }
        return 0;
    }
}
