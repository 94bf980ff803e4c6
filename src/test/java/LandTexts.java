import java.util.ArrayList;
import java.util.List;
import java.util.Random;

/** Texts of LANDS by chance, good ones and broken ones. */
final class LandTexts {
    private final Random random;
    private final List<String> tokens = new ArrayList<>();
    private int villages = 0;
    private int roads = 0;
    private int laws = 0;
    private final List<Integer> items = new ArrayList<>();
    private final List<List<Integer>> told = new ArrayList<>();

    private LandTexts(Random random) {
        this.random = random;
    }

    /** As many VILLAGES, ROADS, ITEMS and LAWS as a LAND may have; or one more of one of them. */
    static String full(Random random) {
        int more = random.nextInt(8);
        StringBuilder b = new StringBuilder("village size" + (1 + random.nextInt(9)) + ";");
        b.append("village size7;".repeat(more == 0 ? 24 : 23));
        for (int r = 0; r < (more == 1 ? 41 : 40); r++) {
            int v = random.nextInt(9);
            b.append("road").append(v).append(' ').append((v + 1 + random.nextInt(8)) % 9).append(';');
        }
        b.append(("item of" + (2 + random.nextInt(4)) + "standard1;").repeat(more == 2 ? 11 : 10));
        for (int l = 0; l < (more == 3 ? 21 : 20) && b.length() < 1182; l++) {
            b.append("law").append(random.nextInt(10)).append(' ').append(random.nextInt(2)).append("to");
            b.append(random.nextInt(2)).append("if1").append(random.nextBoolean() ? "more" : "less");
            b.append(random.nextInt(2)).append(';');
        }
        return b.toString();
    }

    static String text(Random random) {
        if (random.nextInt(12) == 0) {
            return full(random);
        }
        LandTexts made = new LandTexts(random);
        String best = "";
        int style = random.nextInt(4);
        for (int line = 0; line < 120; line++) {
            made.addLine(style, line);
            String longer = made.join(random.nextInt(5) == 0);
            if (longer.length() > 1200) {
                return best;
            }
            best = longer;
            if (line > 8 && random.nextInt(60) == 0) {
                return best;
            }
        }
        return best;
    }

    static String broken(String text, Random random) {
        StringBuilder b = new StringBuilder(text);
        int times = 1 + random.nextInt(2);
        for (int t = 0; t < times && b.length() > 0; t++) {
            int at = random.nextInt(b.length());
            switch (random.nextInt(6)) {
                case 0:
                    b.setCharAt(at, (char) random.nextInt(256));
                    break;
                case 1:
                    b.setLength(at);
                    break;
                case 2:
                    b.deleteCharAt(at);
                    break;
                case 3:
                    b.insert(at, "0123456789; \tx".charAt(random.nextInt(14)));
                    break;
                case 4:
                    int next = b.indexOf(" ", at);
                    b.insert(next < 0 ? at : next, new String[] {" 99", " 6", " river", " 1000", "9", "size"}[random.nextInt(6)]);
                    break;
                default:
                    for (int i = at; i < b.length(); i++) {
                        if (Character.isDigit(b.charAt(i))) {
                            b.setCharAt(i, (char) ('0' + random.nextInt(10)));
                            break;
                        }
                    }
            }
        }
        if (b.length() > 1200) {
            b.setLength(1200);
        }
        return b.toString();
    }

    private void add(Object... parts) {
        for (Object part : parts) {
            tokens.add(part.toString());
        }
    }

    private String join(boolean tight) {
        StringBuilder b = new StringBuilder();
        for (int i = 0; i < tokens.size(); i++) {
            String token = tokens.get(i);
            if (i > 0) {
                boolean same = Character.isLetter(token.charAt(0)) == Character.isLetter(tokens.get(i - 1).charAt(0))
                        && !token.equals(";") && !tokens.get(i - 1).equals(";");
                b.append(same || !tight && !token.equals(";") ? " " : "");
            }
            b.append(token);
        }
        return b.toString();
    }

    private void addLine(int style, int line) {
        int most = style == 0 ? 24 : style == 1 ? 4 : 9;
        if (line < 4 || villages < most && random.nextInt(3) == 0) {
            if (villages < 24) {
                add("village", "size", 1 + random.nextInt(99), ";");
                villages++;
            }
            return;
        }
        int choice = random.nextInt(12);
        if (items.isEmpty() || choice == 0 && items.size() < 10) {
            int of = 2 + random.nextInt(4);
            add("item", "of", of, "standard", random.nextInt(of), ";");
            items.add(of);
        } else if (choice < 5 && roads < 40) {
            int v = random.nextInt(villages);
            int w = (v + 1 + random.nextInt(random.nextBoolean() ? 1 : villages - 1)) % villages;
            add("road", v, w);
            add(random.nextInt(3) == 0 ? new Object[] {"river", ";"} : new Object[] {";"});
            roads++;
        } else if (choice < 9) {
            addSaying();
        } else if (laws < 20) {
            addLaw();
        }
    }

    private void addSaying() {
        int v = random.nextInt(villages);
        int item = random.nextInt(items.size());
        if (!told.contains(List.of(v, item))) {
            told.add(List.of(v, item));
            add("says", v, item, random.nextInt(items.get(item)), ";");
        }
    }

    private void addLaw() {
        int item = random.nextInt(items.size());
        int of = items.get(item);
        add("law", item, random.nextInt(of), "to", random.nextInt(of), "if");
        addSum(of);
        add(new String[] {"more", "less", "same"}[random.nextInt(3)]);
        addSum(of);
        add(";");
        laws++;
    }

    private void addSum(int of) {
        addPart(of);
        if (random.nextInt(12) == 0) {
            for (int i = 0; i < 4; i++) {
                add(random.nextInt(4) == 0 ? "minus" : "times", 990 + random.nextInt(10));
            }
        }
        while (random.nextInt(3) == 0) {
            add(new String[] {"plus", "minus", "times"}[random.nextInt(3)]);
            addPart(of);
        }
    }

    private void addPart(int of) {
        switch (random.nextInt(6)) {
            case 0:
            case 1:
                add("near", random.nextInt(of));
                break;
            case 2:
                add("mass", random.nextInt(of));
                break;
            case 3:
                add("size");
                break;
            case 4:
                add("year");
                break;
            default:
                add(random.nextInt(random.nextBoolean() ? 4 : 80));
        }
    }
}
