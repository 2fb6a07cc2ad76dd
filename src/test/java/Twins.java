import java.util.ArrayList;
import java.util.List;
import java.util.function.Supplier;
import java.util.function.ToLongFunction;

/** Two objects that were made alike: behind a call on one of them that changes nothing they answer alike. */
final class Twins {
    private Twins() {
    }

    /** The answer of a call that changes nothing but, if it was plane() or cargo(), the FAULT. */
    static void unchanged(Edges edges, String call, Supplier<LoadSpans> made, ToLongFunction<LoadSpans> answer, long want) {
        LoadSpans x = made.get();
        LoadSpans y = made.get();
        edges.is(call, answer.applyAsLong(x), want);
        List<String> gone = toTheEnd(x);
        List<String> kept = toTheEnd(y);
        for (int i = 0; i < kept.size(); i++) {
            if (!gone.get(i).equals(kept.get(i))) {
                edges.is(call + " leaves " + kept.get(i) + ", and not " + gone.get(i), true, false);
                return;
            }
        }
        edges.is(call + " changes nothing", true, true);
    }

    /** All that an object answers, then all that is behind what can be undone, in the images and on the tape. */
    private static List<String> toTheEnd(LoadSpans x) {
        List<String> all = new ArrayList<>();
        tell(all, x, "now");
        for (int i = 0; i < 9; i++) {
            all.add("undo() " + x.undo());
            tell(all, x, "undone " + i);
        }
        for (int place = 0; place < 2; place++) {
            all.add("restore(" + place + ") " + x.restore(place));
            tell(all, x, "restored " + place);
        }
        all.add("named() " + x.named());
        return all;
    }

    /** What it answers to all that can be asked, but for the tape and the MOVES told. */
    static List<String> answers(LoadSpans x) {
        List<String> all = new ArrayList<>();
        tell(all, x, "now");
        all.removeIf(line -> line.startsWith("now told") || line.startsWith("now count(10)"));
        return all;
    }

    private static void tell(List<String> all, LoadSpans x, String when) {
        for (int what = 0; what < 11; what++) {
            all.add(when + " count(" + what + ") " + x.count(what));
        }
        for (int k = 0; k < 5; k++) {
            for (int what = 0; what < 4; what++) {
                all.add(when + " pallet(" + k + ", " + what + ") " + x.pallet(k, what));
                all.add(when + " in(" + what + ", " + k + ") " + x.in(what, k));
            }
            all.add(when + " blocks(" + k + ") " + x.blocks(k) + " spare " + x.spare(k));
        }
        for (int s = 0; s < 6; s++) {
            for (int what = 0; what < 5; what++) {
                all.add(when + " spot(" + s + ", " + what + ") " + x.spot(s, what));
            }
        }
        for (int i = 0; i < 13; i++) {
            for (int what = 0; what < 4; what++) {
                all.add(when + " stage(" + i + ", " + what + ") " + x.stage(i, what));
            }
        }
        all.add(when + " why() " + x.why() + " where() " + x.where() + " swaps() " + x.swaps());
        tellLoadings(all, x, when);
        tellMoves(all, x, when + " told");
        all.add(when + " mend() " + x.mend());
        tellMoves(all, x, when + " mend's");
    }

    private static void tellLoadings(List<String> all, LoadSpans x, String when) {
        int many = x.loadings();
        all.add(when + " loadings() " + many);
        for (int i = 0; i < many; i += 1 + many / 5) {
            for (int k = 0; k < 5; k++) {
                all.add(when + " loading(" + i + ", " + k + ") " + x.loading(i, k) + " poured " + x.poured(i, k));
            }
            all.add(when + " handlings(" + i + ") " + x.handlings(i));
        }
    }

    private static void tellMoves(List<String> all, LoadSpans x, String when) {
        for (int i = 0; i < 8; i++) {
            all.add(when + " move(" + i + ") " + x.move(i));
        }
    }
}
