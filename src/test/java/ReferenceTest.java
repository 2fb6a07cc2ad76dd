import java.util.List;
import java.util.Random;

/** Runs of calls by chance on LoadSpans and on SlowLoader: each answer must be the same. */
public final class ReferenceTest {
    private static final int RUNS = 2500;
    private static final int CALLS = 60;

    private final Due due = new Due("ReferenceTest");
    private Random chance;
    private LoadSpans x;
    private SlowLoader y;
    private String run;
    private int goodSeen;
    private int mendSeen;
    private int longMendSeen;
    private int ringSeen;
    private int handlingSeen;

    public static void main(String[] args) {
        ReferenceTest test = new ReferenceTest();
        int runs = args.length > 0 ? Integer.parseInt(args[0]) : RUNS;
        int first = args.length > 1 ? Integer.parseInt(args[1]) : 0;
        for (int i = 0; i < runs && !test.due.anyWrong(); i++) {
            test.run(first + i);
        }
        System.out.println("GOOD states " + test.goodSeen + ", mends " + test.mendSeen + ", of 3 or more " + test.longMendSeen
            + ", of 6 or more " + test.ringSeen + ", handlings above 0 " + test.handlingSeen);
        test.due.is("runs in which something was GOOD", test.goodSeen > runs / 10, true);
        test.due.is("mends told", test.mendSeen > runs / 10, true);
        test.due.is("handlings told", test.handlingSeen > runs / 10, true);
        test.due.close();
    }

    private void run(int seed) {
        chance = new Random(seed);
        x = new LoadSpans();
        y = new SlowLoader();
        run = "run " + seed + ":";
        RandomTexts texts = new RandomTexts(chance);
        plane(texts.plane());
        cargo(texts.cargo());
        int calls = chance.nextInt(CALLS) + 1;
        for (int i = 0; i < calls; i++) {
            act(texts);
            if (chance.nextInt(3) == 0) {
                look();
            }
            if (due.anyWrong()) {
                System.out.println(run + " " + y);
                return;
            }
        }
        look();
    }

    private void is(String what, long got, long want) {
        due.is(run + " " + what, got, want);
    }

    private void write(String text) {
        int[] five = new int[5];
        is("end(0)", x.end(0) ? 1 : 0, y.end(0) ? 1 : 0);
        for (int at = 0; at < text.length(); at += 20) {
            Texts.five(text, at, five);
            is("feed", x.feed(five[0], five[1], five[2], five[3], five[4]), y.feed(five));
        }
        is("end", x.end(text.length()) ? 1 : 0, y.end(text.length()) ? 1 : 0);
    }

    private void plane(String text) {
        write(text);
        is("plane() of " + text, x.plane(), y.plane());
        is("fault() of " + text, x.fault(), y.fault);
    }

    private void cargo(String text) {
        write(text);
        is("cargo() of " + text, x.cargo(), y.cargo());
        is("fault() of " + text, x.fault(), y.fault);
    }

    private int any(int most) {
        return chance.nextInt(20) == 0 ? chance.nextInt(14) - 2 : chance.nextInt(Math.max(1, most));
    }

    private int pallet() {
        return any(y.cargo.pallets.size());
    }

    private int spot() {
        return any(y.plane.spots.size());
    }

    private void act(RandomTexts texts) {
        int k = pallet();
        switch (chance.nextInt(24)) {
            case 0, 1, 2, 3, 4, 5 -> {
                int s = spot();
                is("put(" + k + ", " + s + ")", x.put(k, s), y.put(k, s));
            }
            case 6 -> is("off(" + k + ")", x.off(k), y.off(k));
            case 7, 8 -> {
                int b = any(y.plane.bins.size());
                int n = chance.nextBoolean() ? y.cargo.bulk : chance.nextInt(12) - 1;
                is("pour(" + b + ", " + n + ")", x.pour(b, n), y.pour(b, n));
            }
            case 9, 10, 11 -> take();
            case 12, 13 -> is("mended()", x.mended(), y.mended());
            case 14 -> {
                int w = chance.nextInt(110) - 5;
                int s = chance.nextInt(11);
                is("come(" + w + ", " + s + ")", x.come(w, s), y.come(w, s));
            }
            case 15 -> {
                if (chance.nextBoolean()) {
                    is("drop(" + k + ")", x.drop(k), y.drop(k));
                }
            }
            case 16 -> is("again(" + k + ")", x.again(k), y.again(k));
            case 17 -> {
                int w = chance.nextInt(chance.nextBoolean() ? 30 : 103) - 1;
                is("weigh(" + k + ", " + w + ")", x.weigh(k, w), y.weigh(k, w));
            }
            case 18, 19 -> is("undo()", x.undo(), y.undo());
            case 20 -> {
                int place = chance.nextInt(4) - 1;
                is("image", x.image(place) ? 1 : 0, y.image(place) ? 1 : 0);
            }
            case 21 -> {
                int place = chance.nextInt(4) - 1;
                is("restore", x.restore(place) ? 1 : 0, y.restore(place) ? 1 : 0);
            }
            case 22 -> text(texts);
            default -> swapTwo();
        }
    }

    private void text(RandomTexts texts) {
        switch (chance.nextInt(6)) {
            case 0 -> plane(texts.plane());
            case 1 -> cargo(texts.cargo());
            case 2 -> plane(texts.spoilt(texts.plane()));
            case 3 -> cargo(texts.spoilt(texts.cargo()));
            case 4 -> {
                String name = y.cargo.pallets.isEmpty() ? "a" : y.cargo.pallets.get(chance.nextInt(y.cargo.pallets.size())).name();
                write(chance.nextInt(4) == 0 ? name + "a" : name);
                is("named() of " + name, x.named(), y.named());
            }
            default -> write(texts.heap(true));
        }
    }

    private void swapTwo() {
        List<Integer> now = y.spotsNow();
        if (now.size() < 2 || now.get(0) < 0 || now.get(1) < 0) {
            return;
        }
        is("off", x.off(0), y.off(0));
        is("off", x.off(1), y.off(1));
        is("put", x.put(0, now.get(1)), y.put(0, now.get(1)));
        is("put", x.put(1, now.get(0)), y.put(1, now.get(0)));
    }

    private void take() {
        List<SlowLoader.Loading> all = y.allGood();
        int i = all.isEmpty() || chance.nextInt(9) == 0 ? chance.nextInt(4) - 1 : chance.nextInt(all.size());
        is("take(" + i + ")", x.take(i), y.take(at(all, i)));
    }

    private static SlowLoader.Loading at(List<SlowLoader.Loading> all, int i) {
        return i < 0 || i >= all.size() ? null : all.get(i);
    }

    private void look() {
        for (int what = -1; what < 12; what++) {
            is("count(" + what + ")", x.count(what), y.count(what));
        }
        for (int k = -1; k < 6; k++) {
            for (int what = -1; what < 5; what++) {
                is("pallet(" + k + ", " + what + ")", x.pallet(k, what), y.pallet(k, what));
                is("in(" + what + ", " + k + ")", x.in(what, k), y.in(what, k));
            }
            is("blocks(" + k + ")", x.blocks(k), y.blocks(k));
            is("spare(" + k + ")", x.spare(k), y.spare(k));
        }
        for (int s = -1; s < 7; s++) {
            for (int what = -1; what < 6; what++) {
                is("spot(" + s + ", " + what + ")", x.spot(s, what), y.spot(s, what));
            }
        }
        for (int i = -1; i < 14; i++) {
            for (int what = -1; what < 5; what++) {
                is("stage(" + i + ", " + what + ")", x.stage(i, what), y.stage(i, what));
            }
        }
        is("why()", x.why(), y.why());
        is("where()", x.where(), y.where());
        is("swaps()", x.swaps(), y.swaps());
        goodSeen += y.why() == 0 && !y.cargo.pallets.isEmpty() ? 1 : 0;
        lookAtLoadings();
        lookAtMend();
    }

    private void lookAtLoadings() {
        List<SlowLoader.Loading> all = y.allGood();
        is("loadings()", x.loadings(), all.size());
        int step = Math.max(1, all.size() / 6);
        for (int i = -1; i <= all.size(); i += i >= 0 && i + step < all.size() ? step : 1) {
            SlowLoader.Loading one = at(all, i);
            for (int k = -1; k < 6; k++) {
                boolean there = one != null && k >= 0 && k < one.spots().size();
                is("loading(" + i + ", " + k + ")", x.loading(i, k), there ? one.spots().get(k) : -1);
            }
            for (int b = -1; b < 3; b++) {
                boolean there = one != null && b >= 0 && b < one.bins().size();
                is("poured(" + i + ", " + b + ")", x.poured(i, b), there ? one.bins().get(b) : -1);
            }
            int times = y.handlings(one);
            handlingSeen += times > 0 ? 1 : 0;
            is("handlings(" + i + ")", x.handlings(i), times);
        }
    }

    private void lookAtMend() {
        if (chance.nextBoolean()) {
            int moves = y.mend();
            mendSeen += moves > 0 ? 1 : 0;
            longMendSeen += moves > 2 ? 1 : 0;
            ringSeen += moves > 5 ? 1 : 0;
            is("mend()", x.mend(), moves);
        }
        for (int i = -1; i < 9; i++) {
            is("move(" + i + ")", x.move(i), y.move(i));
        }
    }
}
