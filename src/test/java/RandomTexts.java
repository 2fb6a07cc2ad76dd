import java.util.ArrayList;
import java.util.List;
import java.util.Random;

/**
 * Texts of PLANE and CARGO by chance: mostly without a FAULT, and mostly so that some LOADINGS are GOOD. Some objects tell
 * numbers as far as they go instead: ARMS, the span, what is empty, in TANKS, in BINS.
 */
final class RandomTexts {
    private static final String[] WORDS = {"empty", "span", "hold", "front", "back", "spot", "joint", "bin", "tank",
        "burn", "stop", "pallet", "bulk", "a", "fore", "aft", "main", "wing", "abcdefgh", "abcdefghi", "0", "1", "7",
        "10", "99", "100", "999", "1000", "007", "000", ";", ";", "a1", "1a", "!", "A", "\u00e9", "\n"};

    private final Random chance;
    private final boolean wide;
    private final List<String> names = new ArrayList<>();

    RandomTexts(Random chance) {
        this.chance = chance;
        wide = chance.nextInt(3) == 0;
    }

    private int from(int least, int most) {
        return least + chance.nextInt(most - least + 1);
    }

    private int arm(int least, int most) {
        return wide ? from(0, 99) : from(least, most);
    }

    private String name() {
        StringBuilder b = new StringBuilder();
        int size = from(1, 8);
        for (int i = 0; i < size; i++) {
            b.append((char) ('a' + chance.nextInt(26)));
        }
        return names.contains(b.toString()) || SlowLoader.QUOTED.contains(b.toString()) ? name() : b.toString();
    }

    String plane() {
        List<String> lines = new ArrayList<>();
        names.clear();
        if (chance.nextInt(4) != 0) {
            lines.add("empty " + (wide ? from(1, chance.nextBoolean() ? 999 : 40) : from(50, 600)) + " " + arm(44, 56));
        }
        if (chance.nextInt(4) != 0) {
            int lesser = wide ? from(0, 98) : from(20, 49);
            lines.add("span " + lesser + " " + (wide ? from(lesser + 1, 99) : from(50, 80)));
        }
        addFloor(lines);
        int bins = chance.nextInt(3);
        for (int b = 0; b < bins; b++) {
            lines.add("bin " + arm(20, 80) + " " + (chance.nextInt(wide ? 20 : 40) == 0 ? from(1, wide ? 30 : 99) : from(1, 9)));
        }
        addVoyage(lines);
        return join(lines);
    }

    private void addFloor(List<String> lines) {
        int holds = from(0, 3);
        int spots = 0;
        for (int h = 0; h < holds; h++) {
            String name = name();
            names.add(name);
            lines.add("hold " + name + " " + (chance.nextInt(3) == 0 ? from(20, 150) : 999)
                + (chance.nextBoolean() ? " front" : " back"));
            int here = chance.nextInt(h == holds - 1 ? 7 - spots : Math.min(5, 7 - spots));
            for (int s = 0; s < here; s++) {
                lines.add("spot " + arm(25, 75) + " " + (chance.nextInt(3) == 0 ? from(10, 60) : 99));
                if (s > 0 && chance.nextInt(3) == 0) {
                    lines.add("joint " + from(20, 160));
                }
            }
            spots += here;
        }
    }

    private void addVoyage(List<String> lines) {
        List<String> tanks = new ArrayList<>();
        List<Integer> left = new ArrayList<>();
        int all = from(0, wide ? 16 : 9);
        int stops = 0;
        for (int i = 0; i < all; i++) {
            int kind = chance.nextInt(3);
            if (kind == 0 && tanks.size() < 3) {
                String name = name();
                names.add(name);
                tanks.add(name);
                left.add(from(1, wide ? 99 : 60));
                lines.add("tank " + name + " " + arm(30, 70) + " " + left.get(left.size() - 1));
            } else if (kind == 1 && stops < 4) {
                stops++;
                lines.add("stop");
            } else if (!tanks.isEmpty()) {
                int t = chance.nextInt(tanks.size());
                if (left.get(t) > 0) {
                    int n = from(1, left.get(t));
                    left.set(t, left.get(t) - n);
                    lines.add("burn " + tanks.get(t) + " " + n);
                }
            }
        }
    }

    String cargo() {
        List<String> lines = new ArrayList<>();
        names.clear();
        int pallets = chance.nextInt(6);
        for (int k = 0; k < pallets; k++) {
            String name = name();
            names.add(name);
            lines.add("pallet " + name + " " + (chance.nextBoolean() ? from(1, 20) : from(1, 99)) + " "
                + (chance.nextInt(wide ? 3 : 6) == 0 ? from(1, 9) : from(1, 3)));
        }
        if (chance.nextInt(3) == 0) {
            lines.add(chance.nextInt(lines.size() + 1), "bulk " + (chance.nextInt(8) == 0 ? from(0, 198) : from(0, 10)));
        }
        return join(lines);
    }

    private String join(List<String> lines) {
        StringBuilder b = new StringBuilder();
        for (String line : lines) {
            if (chance.nextInt(10) == 0) {
                b.append(' ');
            }
            b.append(chance.nextInt(10) == 0 ? line.replace(" ", "  ") : line);
            b.append(chance.nextInt(10) == 0 ? " ;" : ";");
        }
        return b.toString();
    }

    String spoilt(String text) {
        StringBuilder b = new StringBuilder(text);
        int times = from(1, 3);
        for (int i = 0; i < times; i++) {
            int at = chance.nextInt(b.length() + 1);
            String word = WORDS[chance.nextInt(WORDS.length)];
            switch (chance.nextInt(6)) {
                case 0 -> b.insert(at, ' ' + word + ' ');
                case 1 -> b.insert(at, word);
                case 2 -> b.setLength(at);
                case 3 -> b.delete(at, Math.min(b.length(), at + from(1, 12)));
                case 4 -> b.insert(at, text.substring(chance.nextInt(text.length() + 1)));
                default -> {
                    if (at < b.length()) {
                        b.setCharAt(at, (char) chance.nextInt(256));
                    }
                }
            }
        }
        if (b.length() > 540) {
            b.setLength(540);
        }
        return b.toString();
    }

    /** A LINE after LINE of what may stand there, so that kinds 3, 4 and 5 come often. */
    String heap(boolean plane) {
        StringBuilder b = new StringBuilder();
        String[] some = {"a", "b", "c", "d", "e", "f", "hold", "back"};
        int lines = from(1, 24);
        for (int i = 0; i < lines; i++) {
            String n = some[chance.nextInt(chance.nextInt(9) == 0 ? 8 : 6)];
            if (!plane) {
                b.append(chance.nextInt(9) == 0 ? "bulk 3;" : "pallet " + n + i + " 5 1;");
                continue;
            }
            switch (chance.nextInt(10)) {
                case 0 -> b.append(chance.nextInt(3) == 0 ? "empty 5 5;" : "stop;");
                case 1 -> b.append(chance.nextInt(3) == 0 ? "span 5 60;" : "stop;");
                case 2 -> b.append("hold ").append(n).append(" 99 front;");
                case 3, 4 -> b.append("spot 5 6;");
                case 5 -> b.append("joint 7;");
                case 6 -> b.append("bin 5 5;");
                case 7 -> b.append("tank ").append(n).append(" 5 9;");
                case 8 -> b.append("burn ").append(n).append(" 3;");
                default -> b.append("stop;");
            }
        }
        if (b.length() > 540) {
            b.setLength(540);
        }
        return b.toString();
    }
}
