import java.util.ArrayDeque;
import java.util.ArrayList;
import java.util.Arrays;
import java.util.HashMap;
import java.util.HashSet;
import java.util.List;
import java.util.Map;
import java.util.Set;

/** The document again, as slowly and as near to its words as can be: what LoadSpans is measured against. */
final class SlowLoader {
    static final Set<String> QUOTED = Set.of("empty", "span", "hold", "front", "back", "spot", "joint", "bin", "tank",
        "burn", "stop", "pallet", "bulk");

    static final class Fault extends RuntimeException {
        private static final long serialVersionUID = 1;
        final int kind;
        final int place;

        Fault(int kind, int place) {
            this.kind = kind;
            this.place = place;
        }
    }

    record Hold(String name, int limit, boolean front) { }
    record Spot(int hold, int arm, int limit) { }
    record Joint(int first, int second, int limit) { }
    record Bin(int arm, int limit) { }
    record Tank(String name, int arm, int fill) { }
    /** tank below 0: a stop. */
    record Stage(int tank, int amount) { }
    record Pallet(String name, int weight, int stop, int spot) {
        Pallet at(int s) {
            return new Pallet(name, weight, stop, s);
        }
    }
    record Loading(List<Integer> spots, List<Integer> bins) { }

    static final class Plane {
        int weight = 100;
        int arm = 50;
        int lesser = 40;
        int greater = 60;
        final List<Hold> holds = new ArrayList<>();
        final List<Spot> spots = new ArrayList<>();
        final List<Joint> joints = new ArrayList<>();
        final List<Bin> bins = new ArrayList<>();
        final List<Tank> tanks = new ArrayList<>();
        final List<Stage> stages = new ArrayList<>();
    }

    static final class Cargo {
        List<Pallet> pallets = new ArrayList<>();
        int bulk;
        List<Integer> bins = new ArrayList<>();

        Cargo copy() {
            Cargo c = new Cargo();
            c.pallets = new ArrayList<>(pallets);
            c.bulk = bulk;
            c.bins = new ArrayList<>(bins);
            return c;
        }
    }

    String tape = "";
    int fault;
    Plane plane = new Plane();
    Cargo cargo = new Cargo();
    List<Cargo> undone = new ArrayList<>();
    List<Integer> told = new ArrayList<>();
    final Plane[] planeImage = new Plane[2];
    final Cargo[] cargoImage = new Cargo[2];

    // ---- texts

    private record Token(String text, int place) { }

    private List<Token> tokens;
    private int at;

    private void cut(String text, int most) {
        if (text.length() > most) {
            throw new Fault(1, most);
        }
        tokens = new ArrayList<>();
        at = 0;
        var m = java.util.regex.Pattern.compile("[a-z0-9]+|[^ ]", java.util.regex.Pattern.DOTALL).matcher(text);
        while (m.find()) {
            tokens.add(new Token(m.group(), m.start()));
        }
        tokens.add(new Token("", text.length()));
    }

    private Token token() {
        return tokens.get(at++);
    }

    private int number(int least, int most) {
        Token t = token();
        if (!t.text.matches("[0-9]{1,3}")) {
            throw new Fault(1, t.place);
        }
        int n = Integer.parseInt(t.text);
        if (n < least || n > most) {
            throw new Fault(2, t.place);
        }
        return n;
    }

    private Token name() {
        Token t = token();
        if (!t.text.matches("[a-z]{1,8}") || QUOTED.contains(t.text)) {
            throw new Fault(1, t.place);
        }
        return t;
    }

    private void semicolon() {
        Token t = token();
        if (!t.text.equals(";")) {
            throw new Fault(1, t.place);
        }
    }

    private static void demand(boolean so, int kind, Token t) {
        if (!so) {
            throw new Fault(kind, t.place);
        }
    }

    private Plane readPlane(String text) {
        cut(text, 500);
        Plane p = new Plane();
        Set<String> names = new HashSet<>();
        Set<String> once = new HashSet<>();
        Map<Integer, Integer> left = new HashMap<>();
        while (tokens.get(at).text.length() > 0) {
            Token t = token();
            int latest = p.holds.size() - 1;
            switch (t.text) {
                case "empty" -> {
                    demand(once.add("empty"), 3, t);
                    p.weight = number(1, 999);
                    p.arm = number(0, 99);
                }
                case "span" -> {
                    demand(once.add("span"), 3, t);
                    p.lesser = number(0, 99);
                    p.greater = number(p.lesser + 1, 99);
                }
                case "hold" -> {
                    demand(p.holds.size() < 3, 4, t);
                    Token n = name();
                    demand(names.add(n.text), 3, n);
                    int limit = number(1, 999);
                    Token door = token();
                    demand(door.text.equals("front") || door.text.equals("back"), 1, door);
                    p.holds.add(new Hold(n.text, limit, door.text.equals("front")));
                }
                case "spot" -> {
                    demand(p.spots.size() < 6, 4, t);
                    demand(latest >= 0, 5, t);
                    int arm = number(0, 99);
                    p.spots.add(new Spot(latest, arm, number(1, 99)));
                }
                case "joint" -> {
                    int n = p.spots.size();
                    demand(n >= 2 && p.spots.get(n - 1).hold == latest && p.spots.get(n - 2).hold == latest, 5, t);
                    for (Joint j : p.joints) {
                        demand(j.second != n - 1, 5, t);
                    }
                    p.joints.add(new Joint(n - 2, n - 1, number(1, 999)));
                }
                case "bin" -> {
                    demand(p.bins.size() < 2, 4, t);
                    int arm = number(0, 99);
                    p.bins.add(new Bin(arm, number(1, 99)));
                }
                case "tank" -> {
                    demand(p.tanks.size() < 3, 4, t);
                    Token n = name();
                    demand(names.add(n.text), 3, n);
                    int arm = number(0, 99);
                    int fill = number(1, 99);
                    left.put(p.tanks.size(), fill);
                    p.tanks.add(new Tank(n.text, arm, fill));
                }
                case "burn" -> {
                    demand(p.stages.size() < 12, 4, t);
                    Token n = name();
                    int tank = -1;
                    for (int i = 0; i < p.tanks.size(); i++) {
                        if (p.tanks.get(i).name.equals(n.text)) {
                            tank = i;
                        }
                    }
                    demand(tank >= 0, 3, n);
                    int amount = number(1, left.get(tank));
                    left.put(tank, left.get(tank) - amount);
                    p.stages.add(new Stage(tank, amount));
                }
                case "stop" -> {
                    demand(p.stages.size() < 12 && p.stages.stream().filter(s -> s.tank < 0).count() < 4, 4, t);
                    p.stages.add(new Stage(-1, 0));
                }
                default -> throw new Fault(1, t.place);
            }
            semicolon();
        }
        return p;
    }

    private Cargo readCargo(String text) {
        cut(text, 300);
        Cargo c = new Cargo();
        Set<String> names = new HashSet<>();
        boolean bulk = false;
        while (tokens.get(at).text.length() > 0) {
            Token t = token();
            switch (t.text) {
                case "pallet" -> {
                    demand(c.pallets.size() < 5, 4, t);
                    Token n = name();
                    demand(names.add(n.text), 3, n);
                    int weight = number(1, 99);
                    c.pallets.add(new Pallet(n.text, weight, number(1, 9), -1));
                }
                case "bulk" -> {
                    demand(!bulk, 3, t);
                    bulk = true;
                    c.bulk = number(0, 198);
                }
                default -> throw new Fault(1, t.place);
            }
            semicolon();
        }
        return c;
    }

    private void startAnew() {
        cargo.pallets.replaceAll(p -> p.at(-1));
        cargo.bins = new ArrayList<>();
        for (int b = 0; b < plane.bins.size(); b++) {
            cargo.bins.add(0);
        }
        undone.clear();
    }

    // ---- the promises

    int feed(int... numbers) {
        if (tape.length() + 20 > 540) {
            return -1;
        }
        StringBuilder more = new StringBuilder(tape);
        for (int n : numbers) {
            more.append((char) (n >> 24 & 255)).append((char) (n >> 16 & 255)).append((char) (n >> 8 & 255))
                .append((char) (n & 255));
        }
        tape = more.toString();
        return tape.length();
    }

    boolean end(int n) {
        if (n < 0 || n > tape.length()) {
            return false;
        }
        tape = tape.substring(0, n);
        return true;
    }

    int plane() {
        String text = tape;
        tape = "";
        fault = 0;
        try {
            plane = readPlane(text);
        } catch (Fault f) {
            fault = f.kind;
            return -1000 - f.place;
        }
        startAnew();
        return plane.spots.size();
    }

    int cargo() {
        String text = tape;
        tape = "";
        fault = 0;
        try {
            cargo = readCargo(text);
        } catch (Fault f) {
            fault = f.kind;
            return -1000 - f.place;
        }
        startAnew();
        return cargo.pallets.size();
    }

    int count(int what) {
        return switch (what) {
            case 0 -> plane.holds.size();
            case 1 -> plane.spots.size();
            case 2 -> plane.joints.size();
            case 3 -> plane.bins.size();
            case 4 -> plane.tanks.size();
            case 5 -> plane.stages.size();
            case 6 -> (int) plane.stages.stream().filter(s -> s.tank < 0).count();
            case 7 -> cargo.pallets.size();
            case 8 -> cargo.bulk;
            case 9 -> (int) cargo.pallets.stream().filter(p -> p.spot < 0).count();
            case 10 -> tape.length();
            default -> -1;
        };
    }

    private boolean has(int k) {
        return k >= 0 && k < cargo.pallets.size();
    }

    private boolean hasSpot(int s) {
        return s >= 0 && s < plane.spots.size();
    }

    private boolean hasBin(int b) {
        return b >= 0 && b < plane.bins.size();
    }

    int pallet(int k, int what) {
        if (!has(k)) {
            return -1;
        }
        Pallet p = cargo.pallets.get(k);
        return switch (what) {
            case 0 -> p.weight;
            case 1 -> p.stop;
            case 2 -> p.spot;
            case 3 -> p.name.length();
            default -> -1;
        };
    }

    int named() {
        String text = tape;
        tape = "";
        for (int k = 0; k < cargo.pallets.size(); k++) {
            if (!text.isEmpty() && cargo.pallets.get(k).name.equals(text)) {
                return k;
            }
        }
        return -1;
    }

    private static int on(List<Pallet> pallets, int s) {
        for (int k = 0; k < pallets.size(); k++) {
            if (pallets.get(k).spot == s && s >= 0) {
                return k;
            }
        }
        return -1;
    }

    private boolean onWay(int s, int of) {
        if (s < 0 || of < 0 || plane.spots.get(s).hold != plane.spots.get(of).hold) {
            return false;
        }
        return plane.holds.get(plane.spots.get(of).hold).front ? s < of : s > of;
    }

    int spot(int s, int what) {
        if (!hasSpot(s)) {
            return -1;
        }
        Spot spot = plane.spots.get(s);
        int way = 0;
        for (int t = 0; t < plane.spots.size(); t++) {
            way += onWay(t, s) ? 1 << t : 0;
        }
        return switch (what) {
            case 0 -> spot.hold;
            case 1 -> spot.arm;
            case 2 -> spot.limit;
            case 3 -> on(cargo.pallets, s);
            case 4 -> way;
            default -> -1;
        };
    }

    int in(int what, int k) {
        if (what == 0 && hasBin(k)) {
            return cargo.bins.get(k);
        }
        if (what == 1 && k >= 0 && k < plane.tanks.size()) {
            return plane.tanks.get(k).fill;
        }
        if (what == 2 && k >= 0 && k < plane.holds.size()) {
            return holdLoad(cargo.pallets, k);
        }
        return -1;
    }

    private int holdLoad(List<Pallet> pallets, int h) {
        int sum = 0;
        for (Pallet p : pallets) {
            sum += p.spot >= 0 && plane.spots.get(p.spot).hold == h ? p.weight : 0;
        }
        return sum;
    }

    private void keep() {
        undone.add(cargo.copy());
        if (undone.size() > 8) {
            undone.remove(0);
        }
    }

    int put(int k, int s) {
        if (!has(k) || !hasSpot(s)) {
            return -1;
        }
        int there = on(cargo.pallets, s);
        if (there >= 0) {
            return there == k ? 2 : 1;
        }
        keep();
        cargo.pallets.set(k, cargo.pallets.get(k).at(s));
        return 0;
    }

    int off(int k) {
        if (!has(k) || cargo.pallets.get(k).spot < 0) {
            return -1;
        }
        keep();
        int s = cargo.pallets.get(k).spot;
        cargo.pallets.set(k, cargo.pallets.get(k).at(-1));
        return s;
    }

    int pour(int b, int n) {
        if (!hasBin(b) || n < 0 || n > plane.bins.get(b).limit) {
            return -1;
        }
        if (cargo.bins.get(b) == n) {
            return 1;
        }
        keep();
        cargo.bins.set(b, n);
        return 0;
    }

    /** WEIGHT and MOMENT of all that is aboard. */
    private int[] aboard(List<Pallet> pallets, List<Integer> bins, int stage) {
        int weight = plane.weight;
        int moment = plane.weight * plane.arm;
        for (int t = 0; t < plane.tanks.size(); t++) {
            int left = plane.tanks.get(t).fill;
            for (int i = 0; i < stage; i++) {
                left -= plane.stages.get(i).tank == t ? plane.stages.get(i).amount : 0;
            }
            weight += left;
            moment += left * plane.tanks.get(t).arm;
        }
        for (int b = 0; b < bins.size(); b++) {
            weight += bins.get(b);
            moment += bins.get(b) * plane.bins.get(b).arm;
        }
        for (Pallet p : pallets) {
            boolean off = p.spot < 0;
            int stops = 0;
            for (int i = 0; i < stage; i++) {
                stops += plane.stages.get(i).tank < 0 ? 1 : 0;
                off |= plane.stages.get(i).tank < 0 && p.stop == stops;
            }
            weight += off ? 0 : p.weight;
            moment += off ? 0 : p.weight * plane.spots.get(p.spot).arm;
        }
        return new int[] {weight, moment};
    }

    private int blockers(List<Pallet> pallets, int k) {
        int bits = 0;
        for (int j = 0; j < pallets.size(); j++) {
            Pallet p = pallets.get(j);
            bits += p.stop > pallets.get(k).stop && onWay(p.spot, pallets.get(k).spot) ? 1 << j : 0;
        }
        return bits;
    }

    /** The RULE and where. */
    private int[] verdict(List<Pallet> pallets, List<Integer> bins) {
        for (int k = 0; k < pallets.size(); k++) {
            if (pallets.get(k).spot < 0) {
                return new int[] {1, k};
            }
        }
        int[] on = new int[plane.spots.size()];
        for (Pallet p : pallets) {
            on[p.spot] = p.weight;
        }
        for (int s = 0; s < on.length; s++) {
            if (on[s] > plane.spots.get(s).limit) {
                return new int[] {2, s};
            }
        }
        for (int j = 0; j < plane.joints.size(); j++) {
            Joint joint = plane.joints.get(j);
            if (on[joint.first] + on[joint.second] > joint.limit) {
                return new int[] {3, j};
            }
        }
        for (int h = 0; h < plane.holds.size(); h++) {
            if (holdLoad(pallets, h) > plane.holds.get(h).limit) {
                return new int[] {4, h};
            }
        }
        if (bins.stream().mapToInt(n -> n).sum() != cargo.bulk) {
            return new int[] {5, 0};
        }
        for (int s = 0; s < on.length; s++) {
            int k = on(pallets, s);
            if (k >= 0 && blockers(pallets, k) != 0) {
                return new int[] {6, s};
            }
        }
        for (int i = 0; i <= plane.stages.size(); i++) {
            int[] a = aboard(pallets, bins, i);
            if (a[1] < a[0] * plane.lesser || a[1] > a[0] * plane.greater) {
                return new int[] {7, i};
            }
        }
        return new int[] {0, -1};
    }

    int why() {
        return verdict(cargo.pallets, cargo.bins)[0];
    }

    int where() {
        return verdict(cargo.pallets, cargo.bins)[1];
    }

    int stage(int i, int what) {
        if (i < 0 || i > plane.stages.size()) {
            return -1000000;
        }
        int[] a = aboard(cargo.pallets, cargo.bins, i);
        return switch (what) {
            case 0 -> a[0];
            case 1 -> a[1];
            case 2 -> a[1] - a[0] * plane.lesser;
            case 3 -> a[0] * plane.greater - a[1];
            default -> -1000000;
        };
    }

    int blocks(int k) {
        return has(k) ? blockers(cargo.pallets, k) : -1;
    }

    List<Loading> allGood() {
        List<Loading> good = new ArrayList<>();
        lay(new ArrayList<>(), good);
        return good;
    }

    private void lay(List<Integer> spots, List<Loading> good) {
        if (spots.size() == cargo.pallets.size()) {
            List<List<Integer>> amounts = new ArrayList<>();
            amounts.add(List.of());
            for (Bin bin : plane.bins) {
                List<List<Integer>> longer = new ArrayList<>();
                for (List<Integer> some : amounts) {
                    for (int n = 0; n <= bin.limit; n++) {
                        List<Integer> more = new ArrayList<>(some);
                        more.add(n);
                        longer.add(more);
                    }
                }
                amounts = longer;
            }
            List<Pallet> pallets = laid(spots);
            for (List<Integer> bins : amounts) {
                if (bins.stream().mapToInt(n -> n).sum() == cargo.bulk && verdict(pallets, bins)[0] == 0) {
                    good.add(new Loading(List.copyOf(spots), bins));
                }
            }
            return;
        }
        for (int s = 0; s < plane.spots.size(); s++) {
            if (!spots.contains(s)) {
                spots.add(s);
                lay(spots, good);
                spots.remove(spots.size() - 1);
            }
        }
    }

    private List<Pallet> laid(List<Integer> spots) {
        List<Pallet> pallets = new ArrayList<>();
        for (int k = 0; k < spots.size(); k++) {
            pallets.add(cargo.pallets.get(k).at(spots.get(k)));
        }
        return pallets;
    }

    List<Integer> spotsNow() {
        List<Integer> spots = new ArrayList<>();
        cargo.pallets.forEach(p -> spots.add(p.spot));
        return spots;
    }

    int take(Loading loading) {
        if (loading == null) {
            return -1;
        }
        keep();
        List<Integer> before = spotsNow();
        int elsewhere = 0;
        for (int k = 0; k < before.size(); k++) {
            elsewhere += before.get(k).equals(loading.spots.get(k)) ? 0 : 1;
        }
        cargo.pallets = laid(loading.spots);
        cargo.bins = new ArrayList<>(loading.bins);
        return elsewhere;
    }

    /** Step by step through all ways to lie: each step is one PALLET through a DOOR. */
    int handlings(Loading loading) {
        if (loading == null) {
            return -1;
        }
        Map<List<Integer>, Integer> steps = new HashMap<>();
        ArrayDeque<List<Integer>> open = new ArrayDeque<>();
        steps.put(spotsNow(), 0);
        open.add(spotsNow());
        while (!open.isEmpty()) {
            List<Integer> now = open.poll();
            if (now.equals(loading.spots)) {
                return steps.get(now);
            }
            for (int k = 0; k < now.size(); k++) {
                for (int s = -1; s < plane.spots.size(); s++) {
                    boolean out = s == -1 && now.get(k) >= 0 && free(now, now.get(k));
                    boolean in = s >= 0 && now.get(k) < 0 && !now.contains(s) && free(now, s);
                    if (out || in) {
                        List<Integer> then = new ArrayList<>(now);
                        then.set(k, s);
                        if (steps.putIfAbsent(then, steps.get(now) + 1) == null) {
                            open.add(then);
                        }
                    }
                }
            }
        }
        throw new IllegalStateException("no way");
    }

    private boolean free(List<Integer> now, int s) {
        for (int t : now) {
            if (onWay(t, s)) {
                return false;
            }
        }
        return true;
    }

    /** null: it can't be. */
    List<Integer> mendMoves() {
        Map<List<Integer>, List<Integer>> paths = new HashMap<>();
        ArrayDeque<List<Integer>> open = new ArrayDeque<>();
        paths.put(spotsNow(), List.of());
        open.add(spotsNow());
        while (!open.isEmpty()) {
            List<Integer> now = open.poll();
            if (verdict(laid(now), cargo.bins)[0] == 0) {
                return paths.get(now);
            }
            for (int k = 0; k < now.size(); k++) {
                for (int s = 0; s < plane.spots.size(); s++) {
                    if (!now.contains(s)) {
                        List<Integer> then = new ArrayList<>(now);
                        then.set(k, s);
                        if (!paths.containsKey(then)) {
                            List<Integer> path = new ArrayList<>(paths.get(now));
                            path.add(10 * k + s);
                            paths.put(then, path);
                            open.add(then);
                        }
                    }
                }
            }
        }
        return null;
    }

    int mend() {
        List<Integer> moves = mendMoves();
        if (moves == null) {
            return -1;
        }
        told = moves;
        return moves.size();
    }

    int move(int i) {
        return i >= 0 && i < told.size() ? told.get(i) : -1;
    }

    int mended() {
        List<Integer> moves = mendMoves();
        if (moves == null) {
            return -1;
        }
        if (!moves.isEmpty()) {
            keep();
        }
        for (int m : moves) {
            cargo.pallets.set(m / 10, cargo.pallets.get(m / 10).at(m % 10));
        }
        return moves.size();
    }

    int spare(int k) {
        if (!has(k) || why() != 0) {
            return -1;
        }
        Pallet p = cargo.pallets.get(k);
        for (int more = 1; more <= 99; more++) {
            List<Pallet> heavier = new ArrayList<>(cargo.pallets);
            heavier.set(k, new Pallet(p.name, p.weight + more, p.stop, p.spot));
            if (verdict(heavier, cargo.bins)[0] != 0) {
                return more - 1;
            }
        }
        return 99;
    }

    int swaps() {
        int pairs = 0;
        for (int a = 0; a < cargo.pallets.size(); a++) {
            for (int b = 0; b < a; b++) {
                List<Pallet> other = new ArrayList<>(cargo.pallets);
                other.set(a, cargo.pallets.get(a).at(cargo.pallets.get(b).spot));
                other.set(b, cargo.pallets.get(b).at(cargo.pallets.get(a).spot));
                pairs += verdict(other, cargo.bins)[0] == 0 ? 1 : 0;
            }
        }
        return pairs;
    }

    int come(int weight, int stop) {
        if (weight < 1 || weight > 99 || stop < 1 || stop > 9 || cargo.pallets.size() == 5) {
            return -1;
        }
        keep();
        cargo.pallets.add(new Pallet("", weight, stop, -1));
        return cargo.pallets.size() - 1;
    }

    int drop(int k) {
        if (!has(k)) {
            return -1;
        }
        keep();
        cargo.pallets.remove(k);
        return cargo.pallets.size();
    }

    int again(int k) {
        if (!has(k)) {
            return -1;
        }
        keep();
        cargo.pallets.add(cargo.pallets.remove(k));
        return cargo.pallets.size() - 1;
    }

    int weigh(int k, int w) {
        if (!has(k) || w < 1 || w > 99) {
            return -1;
        }
        Pallet p = cargo.pallets.get(k);
        if (p.weight == w) {
            return 1;
        }
        keep();
        cargo.pallets.set(k, new Pallet(p.name, w, p.stop, p.spot));
        return 0;
    }

    int undo() {
        if (undone.isEmpty()) {
            return -1;
        }
        cargo = undone.remove(undone.size() - 1);
        return undone.size();
    }

    boolean image(int k) {
        if (k != 0 && k != 1) {
            return false;
        }
        planeImage[k] = plane;
        cargoImage[k] = cargo.copy();
        return true;
    }

    boolean restore(int k) {
        if (k != 0 && k != 1 || planeImage[k] == null) {
            return false;
        }
        plane = planeImage[k];
        cargo = cargoImage[k].copy();
        undone.clear();
        return true;
    }

    @Override
    public String toString() {
        return cargo.pallets + " bulk " + cargo.bulk + " bins " + cargo.bins + Arrays.asList(plane.holds, plane.spots,
            plane.joints, plane.bins, plane.tanks, plane.stages);
    }
}
