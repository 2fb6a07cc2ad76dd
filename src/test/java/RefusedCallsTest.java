import java.util.function.Supplier;
import java.util.function.ToLongFunction;

/** What is refused, and what only asks, changes nothing: an object behind it answers as its twin without it. */
public final class RefusedCallsTest {
    private static final Edges E = new Edges("RefusedCallsTest");
    private static final String PLANE = "empty 300 50;span 45 55;hold a 90 front;spot 45 30;spot 50 30;joint 50;spot 55 30;"
        + "hold b 60 back;spot 48 30;spot 52 30;bin 40 5;bin 60 5;tank t 50 20;burn t 5;stop;burn t 5;stop;";
    private static final String CARGO = "pallet a 20 1;pallet bb 25 2;pallet ccc 10 3;bulk 7;";
    private static final int MIN = Integer.MIN_VALUE;
    private static final int MAX = Integer.MAX_VALUE;

    private static Supplier<LoadSpans> now;
    private static String state;

    public static void main(String[] args) {
        in("a new object", LoadSpans::new);
        tapeCalls();
        nothingThere();
        in("all lies", RefusedCallsTest::lying);
        tapeCalls();
        texts();
        asking();
        lies();
        in("all may be", RefusedCallsTest::full);
        tapeCalls();
        texts();
        asking();
        fullLies();
        in("it can't be mended", RefusedCallsTest::hopeless);
        asking();
        unmended();
        in("the tape is full", RefusedCallsTest::fullTape);
        fullTapeCalls();
        E.close();
    }

    private static void in(String what, Supplier<LoadSpans> made) {
        state = what;
        now = made;
        E.sentence("NONE: no such");
    }

    private static void same(String call, ToLongFunction<LoadSpans> answer, long want) {
        Twins.unchanged(E, state + ": " + call, now, answer, want);
    }

    /** GOOD, with an image, MOVES told, a FAULT, a NAME on the tape and four that can be undone. */
    private static LoadSpans lying() {
        LoadSpans x = Texts.loader(PLANE, CARGO);
        x.mend();
        x.put(0, 1);
        x.put(1, 3);
        x.pour(0, 3);
        x.pour(1, 4);
        x.mend();
        x.image(1);
        x.restore(1);
        x.weigh(0, 22);
        x.put(2, 0);
        x.put(2, 2);
        x.off(1);
        x.put(1, 4);
        Texts.plane(x, "spot");
        Texts.tell(x, "bb");
        return x;
    }

    /** Five PALLETS, both images, eight that can be undone, no FAULT. */
    private static LoadSpans full() {
        LoadSpans x = Texts.loader(PLANE, CARGO);
        x.image(0);
        x.come(1, 1);
        x.come(2, 9);
        x.image(1);
        for (int k = 0; k < 5; k++) {
            x.put(k, k);
        }
        x.pour(0, 5);
        x.weigh(3, 30);
        x.again(2);
        x.again(0);
        Texts.tell(x, "ccc");
        return x;
    }

    private static LoadSpans hopeless() {
        LoadSpans x = Texts.loader(PLANE, CARGO);
        x.put(0, 0);
        x.pour(0, 3);
        x.pour(1, 4);
        x.mend();
        x.weigh(2, 99);
        return x;
    }

    private static LoadSpans fullTape() {
        LoadSpans x = lying();
        while (x.feed(0x20202020, 0x20202020, 0x20202020, 0x20202020, 0x20202020) > 0) {
            continue;
        }
        return x;
    }

    private static void tapeCalls() {
        LoadSpans x = now.get();
        int bytes = x.count(10);
        for (int n : new int[] {-1, -2, MIN, bytes + 1, bytes + 20, 540, 541, MAX}) {
            same("end(" + n + ")", y -> y.end(n) ? 1 : 0, 0);
        }
        same("end(" + bytes + ")", y -> y.end(bytes) ? 1 : 0, 1);
        for (int place : new int[] {MIN, -1, 2, 3, 256, MAX}) {
            same("image(" + place + ")", y -> y.image(place) ? 1 : 0, 0);
            same("restore(" + place + ")", y -> y.restore(place) ? 1 : 0, 0);
        }
    }

    private static void fullTapeCalls() {
        same("feed() behind 522", y -> y.feed(-1, -1, -1, -1, -1), -1);
        same("feed() behind 522, thrice", y -> y.feed(0, 0, 0, 0, 0) + y.feed(1, 2, 3, 4, 5) + y.feed(-1, 0, 0, 0, 0), -3);
        same("end(523)", y -> y.end(523) ? 1 : 0, 0);
    }

    private static void nothingThere() {
        same("restore(0)", y -> y.restore(0) ? 1 : 0, 0);
        same("restore(1)", y -> y.restore(1) ? 1 : 0, 0);
        same("undo()", LoadSpans::undo, -1);
        same("put(0, 0)", y -> y.put(0, 0), -1);
        same("off(0)", y -> y.off(0), -1);
        same("pour(0, 0)", y -> y.pour(0, 0), -1);
        same("take(1)", y -> y.take(1), -1);
        same("drop(0)", y -> y.drop(0), -1);
        same("again(0)", y -> y.again(0), -1);
        same("weigh(0, 1)", y -> y.weigh(0, 1), -1);
        same("mended()", LoadSpans::mended, 0);
        comeNotAsTold();
    }

    private static void comeNotAsTold() {
        int[][] wrong = {{0, 1}, {100, 1}, {1, 0}, {1, 10}, {-1, 5}, {5, -1}, {MIN, 1}, {MAX, 1}, {1, MIN}, {1, MAX}};
        for (int[] two : wrong) {
            same("come(" + two[0] + ", " + two[1] + ")", y -> y.come(two[0], two[1]), -1);
        }
    }

    /** A text with a FAULT leaves all but the FAULT and the tape, which the twin empties, too. */
    private static void texts() {
        Supplier<LoadSpans> made = now;
        now = () -> {
            LoadSpans x = made.get();
            x.end(0);
            return x;
        };
        String[] planes = {"!", "empty 5 5;empty", "hold z 9 front;spot 9 9;spot 100 1;", "tank z 1 1;burn z 1;stop;burn z 1;",
            "stop;stop;stop;stop;stop;", "span 1 2;joint", "bin 1 1;bin 1 1;bin", " ".repeat(501), "spot 1 1;"};
        for (String text : planes) {
            same("plane() of " + text, y -> Texts.plane(y, text) <= -1000 ? 1 : 0, 1);
            same("plane(), fault() of " + text, y -> Texts.plane(y, text) <= -1000 && y.fault() > 0 ? 1 : 0, 1);
        }
        String[] cargoes = {"!", "bulk 198;bulk", "pallet z 9 9;pallet z 9 9;", "bulk 5;pallet z 9 9;pallet y 0 1;",
            "pallet z 9 9", " ".repeat(301)};
        for (String text : cargoes) {
            same("cargo() of " + text, y -> Texts.cargo(y, text) <= -1000 ? 1 : 0, 1);
        }
        same("named() of none", y -> Texts.named(y, "zzz"), -1);
        same("named() of bb", y -> Texts.named(y, "bb") >= 0 ? 1 : 0, 1);
        now = made;
    }

    private static void asking() {
        LoadSpans x = now.get();
        for (int what : new int[] {-1, 0, 5, 10, 11}) {
            same("count(" + what + ")", y -> y.count(what), x.count(what));
        }
        same("fault()", LoadSpans::fault, x.fault());
        same("why()", LoadSpans::why, x.why());
        same("where()", LoadSpans::where, x.where());
        same("loadings()", LoadSpans::loadings, x.loadings());
        same("swaps()", LoadSpans::swaps, x.swaps());
        for (int k = -1; k < 6; k++) {
            int one = k;
            same("spare(" + k + ")", y -> y.spare(one), x.spare(k));
            same("blocks(" + k + ")", y -> y.blocks(one), x.blocks(k));
            same("pallet(" + k + ", 0)", y -> y.pallet(one, 0), x.pallet(k, 0));
            same("spot(" + k + ", 3)", y -> y.spot(one, 3), x.spot(k, 3));
            same("in(2, " + k + ")", y -> y.in(2, one), x.in(2, k));
            same("stage(" + k + ", 3)", y -> y.stage(one, 3), x.stage(k, 3));
            same("move(" + k + ")", y -> y.move(one), x.move(k));
            same("handlings(" + k + ")", y -> y.handlings(one), x.handlings(k));
            same("loading(" + k + ", 0)", y -> y.loading(one, 0), x.loading(k, 0));
            same("poured(" + k + ", 0)", y -> y.poured(one, 0), x.poured(k, 0));
        }
    }

    private static void lies() {
        E.is("GOOD: why()", now.get().why(), 0);
        same("mended()", LoadSpans::mended, 0);
        same("put(0, 1), where it lies", y -> y.put(0, 1), 2);
        same("put(0, 2), where another one lies", y -> y.put(0, 2), 1);
        putsOfNone(3);
        same("pour(0, 3), as it is", y -> y.pour(0, 3), 1);
        pours();
        same("weigh(0, 22), as it is", y -> y.weigh(0, 22), 1);
        weighs(3);
        palletsOfNone(3);
        takes();
        comeNotAsTold();
        same("restore(0), where nothing is kept", y -> y.restore(0) ? 1 : 0, 0);
    }

    private static void fullLies() {
        same("come(1, 1): there are 5", y -> y.come(1, 1), -1);
        same("put(4, 0), where it lies", y -> y.put(4, 0), 2);
        same("put(0, 0), where the last one lies", y -> y.put(0, 0), 1);
        putsOfNone(5);
        same("pour(0, 5), as it is", y -> y.pour(0, 5), 1);
        pours();
        same("weigh(2, 2), as it is", y -> y.weigh(2, 2), 1);
        weighs(5);
        palletsOfNone(5);
        takes();
        comeNotAsTold();
    }

    private static void putsOfNone(int pallets) {
        int[][] none = {{-1, 0}, {MIN, 0}, {pallets, 0}, {MAX, 0}, {0, -1}, {0, MIN}, {0, 5}, {0, MAX}, {-1, -1}, {pallets, 5}};
        for (int[] two : none) {
            same("put(" + two[0] + ", " + two[1] + ")", y -> y.put(two[0], two[1]), -1);
        }
    }

    private static void pours() {
        int[][] none = {{-1, 0}, {2, 0}, {MIN, 0}, {MAX, 0}, {0, -1}, {0, 6}, {1, 6}, {0, MIN}, {0, MAX}, {2, 6}};
        for (int[] two : none) {
            same("pour(" + two[0] + ", " + two[1] + ")", y -> y.pour(two[0], two[1]), -1);
        }
    }

    private static void weighs(int pallets) {
        int[][] none = {{-1, 1}, {pallets, 1}, {MIN, 1}, {MAX, 1}, {0, 0}, {0, 100}, {0, -1}, {0, MIN}, {0, MAX}};
        for (int[] two : none) {
            same("weigh(" + two[0] + ", " + two[1] + ")", y -> y.weigh(two[0], two[1]), -1);
        }
    }

    private static void palletsOfNone(int pallets) {
        for (int k : new int[] {-1, pallets, pallets + 1, MIN, MAX}) {
            same("off(" + k + ")", y -> y.off(k), -1);
            same("drop(" + k + ")", y -> y.drop(k), -1);
            same("again(" + k + ")", y -> y.again(k), -1);
        }
    }

    private static void takes() {
        int many = now.get().loadings();
        for (int i : new int[] {-1, many, many + 1, MIN, MAX}) {
            same("take(" + i + ")", y -> y.take(i), -1);
        }
    }

    private static void unmended() {
        same("mend()", LoadSpans::mend, -1);
        same("mended()", LoadSpans::mended, -1);
        same("off(1), OUT", y -> y.off(1), -1);
        same("take(0)", y -> y.take(0), -1);
    }
}
