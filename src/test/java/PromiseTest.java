/** Each promise of the document by hand: ordinary inputs, the edges that it names, wrong inputs. */
public final class PromiseTest {
    private static final Due DUE = new Due("PromiseTest");

    /**
     * Two HOLDS: fore (front: SPOTS 0, 1, 2) and aft (back: SPOTS 3, 4), two BINS, a TANK, four STAGES behind 0.
     */
    private static final String PLANE = "empty 200 50;span 45 55;hold fore 60 front;spot 40 30;spot 45 30;joint 50;"
        + "spot 50 30;hold aft 50 back;spot 55 40;spot 60 20;bin 30 8;bin 70 6;tank wing 52 30;burn wing 10;stop;"
        + "burn wing 15;stop;";
    private static final String CARGO = "pallet red 20 1;pallet green 25 2;pallet blue 10 3;bulk 9;";

    public static void main(String[] args) {
        newObject();
        feedAndEnd();
        planeAndCargo();
        counts();
        palletsAndNames();
        spotsAndIn();
        putOffPour();
        rules();
        spanRule();
        stages();
        blocks();
        loadings();
        slopes();
        bounds();
        takes();
        handlings();
        mends();
        mendsWithBins();
        spares();
        swaps();
        comeDropAgainWeigh();
        undos();
        images();
        DUE.close();
    }

    private static void is(String what, long got, long want) {
        DUE.is(what, got, want);
    }

    private static void is(String what, boolean got, boolean want) {
        DUE.is(what, got, want);
    }

    private static LoadSpans loader() {
        return Texts.loader(PLANE, CARGO);
    }

    /** red on 0, green on 1, blue on 2 would block: here red 1, green 2, blue 3, and all bulk in the BINS. */
    private static LoadSpans laid(int red, int green, int blue) {
        LoadSpans x = loader();
        int[] spots = {red, green, blue};
        for (int k = 0; k < 3; k++) {
            x.put(k, spots[k]);
        }
        x.pour(0, 5);
        x.pour(1, 4);
        return x;
    }

    private static void newObject() {
        LoadSpans x = new LoadSpans();
        is("NONE", LoadSpans.NONE, -1);
        for (int what = 0; what <= 10; what++) {
            is("new: count(" + what + ")", x.count(what), 0);
        }
        is("new: fault()", x.fault(), 0);
        is("new: why()", x.why(), 0);
        is("new: where()", x.where(), -1);
        is("new: stage(0, 0)", x.stage(0, 0), 100);
        is("new: stage(0, 1)", x.stage(0, 1), 5000);
        is("new: stage(0, 2)", x.stage(0, 2), 1000);
        is("new: stage(0, 3)", x.stage(0, 3), 1000);
        is("new: loadings()", x.loadings(), 1);
        is("new: loading(0, 0)", x.loading(0, 0), -1);
        is("new: take(0)", x.take(0), 0);
        is("new: handlings(0)", x.handlings(0), 0);
        is("new: mend()", x.mend(), 0);
        is("new: mended()", x.mended(), 0);
        is("new: move(0)", x.move(0), -1);
        is("new: swaps()", x.swaps(), 0);
        is("new: undo() of take", x.undo(), 0);
        is("new: undo()", x.undo(), -1);
        is("new: restore(0)", x.restore(0), false);
        is("new: named()", x.named(), -1);
    }

    private static void feedAndEnd() {
        LoadSpans x = new LoadSpans();
        for (int i = 1; i <= 27; i++) {
            is("feed", x.feed(-1, 2, 3, 4, 5), 20 * i);
        }
        is("feed above 540", x.feed(1, 2, 3, 4, 5), -1);
        is("count(10)", x.count(10), 540);
        is("end(541)", x.end(541), false);
        is("end(-1)", x.end(-1), false);
        is("end(540)", x.end(540), true);
        is("end(521)", x.end(521), true);
        is("feed with 19 left", x.feed(1, 2, 3, 4, 5), -1);
        is("count(10)", x.count(10), 521);
        is("end(520)", x.end(520), true);
        is("feed with 20 left", x.feed(1, 2, 3, 4, 5), 540);
        is("end(0)", x.end(0), true);
        is("end(1)", x.end(1), false);
        // 's' 't' 'o' 'p', then the highest byte first
        is("feed", x.feed(0x73746f70, 0x3b202020, 0x73746f70, 0x3b000000, 0), 20);
        is("end(13)", x.end(13), true);
        is("plane()", x.plane(), 0);
        is("count(6)", x.count(6), 2);
        // bytes above 127 are bytes too, and no FAULT of the program
        x.feed(0x80818283, 0, 0, 0, 0);
        is("plane() of odd bytes", x.plane(), -1000);
        is("fault()", x.fault(), 1);
    }

    private static void planeAndCargo() {
        LoadSpans x = laid(1, 2, 3);
        is("plane() with a FAULT", Texts.plane(x, "stop"), -1004);
        is("fault()", x.fault(), 1);
        is("it stays: count(1)", x.count(1), 5);
        is("it stays: pallet(0, 2)", x.pallet(0, 2), 1);
        is("cargo() with a FAULT", Texts.cargo(x, "bulk 199;"), -1005);
        is("fault()", x.fault(), 2);
        is("it stays: count(7)", x.count(7), 3);
        is("it stays: in(0, 0)", x.in(0, 0), 5);
        is("undone still", x.undo(), 4);
        x.weigh(0, 21);
        x.come(7, 7);
        is("plane()", Texts.plane(x, "hold a 9 front;spot 1 1;bin 1 1;"), 1);
        is("fault()", x.fault(), 0);
        is("PALLETS stay", x.count(7), 4);
        is("as they weighed", x.pallet(0, 0), 21);
        is("bulk stays", x.count(8), 9);
        is("all are OUT", x.count(9), 4);
        is("nothing in BINS", x.in(0, 0), 0);
        is("nothing undone", x.undo(), -1);
        is("plane() again", Texts.plane(x, PLANE), 5);
        is("nothing in BINS", x.in(0, 1), 0);
        x.put(0, 0);
        x.pour(0, 1);
        is("cargo()", Texts.cargo(x, "pallet a 1 1;"), 1);
        is("cargo() is OUT", x.pallet(0, 2), -1);
        is("cargo(): nothing in BINS", x.in(0, 0), 0);
        is("cargo(): bulk", x.count(8), 0);
        is("cargo(): nothing undone", x.undo(), -1);
        is("PLANE stays", x.count(1), 5);
        is("an empty PLANE", Texts.plane(x, ""), 0);
        is("has the weight of none told", x.stage(0, 0), 100);
    }

    private static void counts() {
        LoadSpans x = loader();
        int[] due = {2, 5, 1, 2, 1, 4, 2, 3, 9, 3, 0};
        for (int what = 0; what < due.length; what++) {
            is("count(" + what + ")", x.count(what), due[what]);
        }
        is("count(11)", x.count(11), -1);
        is("count(-1)", x.count(-1), -1);
        x.put(1, 4);
        is("count(9)", x.count(9), 2);
        x.feed(0, 0, 0, 0, 0);
        is("count(10)", x.count(10), 20);
    }

    private static void palletsAndNames() {
        LoadSpans x = loader();
        x.put(1, 4);
        int[] due = {25, 2, 4, 5};
        for (int what = 0; what < 4; what++) {
            is("pallet(1, " + what + ")", x.pallet(1, what), due[what]);
        }
        is("pallet(0, 2)", x.pallet(0, 2), -1);
        is("pallet(0, 3)", x.pallet(0, 3), 3);
        is("pallet(1, 4)", x.pallet(1, 4), -1);
        is("pallet(1, -1)", x.pallet(1, -1), -1);
        is("pallet(3, 0)", x.pallet(3, 0), -1);
        is("pallet(-1, 0)", x.pallet(-1, 0), -1);
        is("named() green", Texts.named(x, "green"), 1);
        is("named() takes the tape", x.count(10), 0);
        is("named() blue", Texts.named(x, "blue"), 2);
        is("named() gree", Texts.named(x, "gree"), -1);
        is("named() greenn", Texts.named(x, "greenn"), -1);
        is("named() ' red'", Texts.named(x, " red"), -1);
        is("named() with a blank behind", Texts.named(x, "red "), -1);
        is("named() with a 0 behind", Texts.named(x, "red\0"), -1);
        is("named() Red", Texts.named(x, "Red"), -1);
        is("named() a long one", Texts.named(x, "redredredred"), -1);
        x.come(5, 5);
        is("named() of nothing", Texts.named(x, ""), -1);
        LoadSpans y = Texts.loader("", "pallet abcdefgh 1 1;pallet z 1 1;");
        is("named() of eight letters", Texts.named(y, "abcdefgh"), 0);
        is("named() of one letter", Texts.named(y, "z"), 1);
        is("pallet(0, 3)", y.pallet(0, 3), 8);
        is("pallet(1, 3)", y.pallet(1, 3), 1);
    }

    private static void spotsAndIn() {
        LoadSpans x = laid(1, 2, 3);
        int[][] due = {{0, 40, 30, -1, 0}, {0, 45, 30, 0, 1}, {0, 50, 30, 1, 3}, {1, 55, 40, 2, 16}, {1, 60, 20, -1, 0}};
        for (int s = 0; s < 5; s++) {
            for (int what = 0; what < 5; what++) {
                is("spot(" + s + ", " + what + ")", x.spot(s, what), due[s][what]);
            }
        }
        is("spot(5, 0)", x.spot(5, 0), -1);
        is("spot(-1, 0)", x.spot(-1, 0), -1);
        is("spot(0, 5)", x.spot(0, 5), -1);
        is("spot(0, -1)", x.spot(0, -1), -1);
        int[][] in = {{5, 4, -1}, {30, -1, -1}, {45, 10, -1}, {-1, -1, -1}};
        for (int what = 0; what < 4; what++) {
            for (int k = 0; k < 3; k++) {
                is("in(" + what + ", " + k + ")", x.in(what, k), in[what][k]);
            }
            is("in(" + what + ", -1)", x.in(what, -1), -1);
        }
        is("in(-1, 0)", x.in(-1, 0), -1);
    }

    private static void putOffPour() {
        LoadSpans x = loader();
        is("put(0, 0)", x.put(0, 0), 0);
        is("put(0, 0) again", x.put(0, 0), 2);
        is("put(1, 0)", x.put(1, 0), 1);
        is("pallet(1, 2)", x.pallet(1, 2), -1);
        is("put(0, 4)", x.put(0, 4), 0);
        is("spot(0, 3)", x.spot(0, 3), -1);
        is("put(3, 0)", x.put(3, 0), -1);
        is("put(0, 5)", x.put(0, 5), -1);
        is("put(-1, 0)", x.put(-1, 0), -1);
        is("put(0, -1)", x.put(0, -1), -1);
        is("off(0)", x.off(0), 4);
        is("off(0) again", x.off(0), -1);
        is("off(3)", x.off(3), -1);
        is("off(-1)", x.off(-1), -1);
        is("pour(0, 0)", x.pour(0, 0), 1);
        is("pour(0, 8)", x.pour(0, 8), 0);
        is("pour(0, 8) again", x.pour(0, 8), 1);
        is("pour(0, 9)", x.pour(0, 9), -1);
        is("pour(0, -1)", x.pour(0, -1), -1);
        is("pour(2, 0)", x.pour(2, 0), -1);
        is("pour(-1, 0)", x.pour(-1, 0), -1);
        is("pour(1, 6)", x.pour(1, 6), 0);
        is("in(0, 0)", x.in(0, 0), 8);
        is("in(0, 1)", x.in(0, 1), 6);
    }

    private static void broken(String what, LoadSpans x, int rule, int where) {
        is(what + ": why()", x.why(), rule);
        is(what + ": where()", x.where(), where);
    }

    private static void rules() {
        LoadSpans x = loader();
        broken("all are OUT", x, 1, 0);
        x.put(0, 0);
        broken("green is OUT", x, 1, 1);
        x.put(1, 4);
        x.put(2, 3);
        broken("green is above the LIMIT of SPOT 4", x, 2, 4);
        x.weigh(0, 31);
        broken("red is above the LIMIT of SPOT 0, too", x, 2, 0);
        x.weigh(0, 30);
        broken("at the LIMIT it is not above it", x, 2, 4);
        x.put(1, 1);
        broken("30 and 25 on the JOINT", x, 3, 0);
        x.weigh(0, 25);
        x.put(2, 2);
        broken("25 and 25 on the JOINT, fore at its LIMIT", x, 5, 0);
        x.weigh(2, 11);
        broken("fore is above its LIMIT", x, 4, 0);
        x.weigh(2, 10);
        x.pour(0, 8);
        broken("8 in BINS", x, 5, 0);
        x.pour(1, 2);
        broken("10 in BINS", x, 5, 0);
        x.pour(1, 1);
        is("9 in BINS: why()", x.why() > 5 || x.why() == 0, true);
        // aft is 'back': SPOT 4 is nearest to its DOOR
        LoadSpans y = laid(0, 4, 3);
        y.weigh(1, 20);
        y.weigh(2, 10);
        is("green (2) on 4 does not block blue (3) on 3", y.blocks(2), 0);
        LoadSpans z = laid(3, 0, 4);
        broken("blue (3) on 4 blocks red (1) on 3", z, 6, 3);
        z.put(1, 2);
        z.put(0, 1);
        is("red on 1 is ahead of green on 2", z.blocks(1), 0);
        LoadSpans w = laid(2, 1, 0);
        broken("green on 1 is the least SPOT of one that is BLOCKED", w, 6, 1);
    }

    private static void spanRule() {
        // empty 100 at 50, SPAN 40 to 60: PALLETS of 25 at 0 (MOMENT 5000 of 125 by 40 = 5000: just IN SPAN)
        LoadSpans x = Texts.loader("hold a 99 front;spot 0 99;", "pallet a 25 1;");
        x.put(0, 0);
        broken("just IN SPAN", x, 0, -1);
        is("stage(0, 2)", x.stage(0, 2), 0);
        x.weigh(0, 26);
        broken("not IN SPAN", x, 7, 0);
        is("stage(0, 2)", x.stage(0, 2), -40);
        LoadSpans y = Texts.loader("hold a 99 front;spot 99 99;tank t 0 50;burn t 20;burn t 30;", "pallet a 25 1;");
        y.put(0, 0);
        // at 0: 175, 7475; 1: 155, 7475; 2: 125, 7475 (125 by 60 = 7500)
        broken("IN SPAN at all STAGES", y, 0, -1);
        is("stage(2, 3)", y.stage(2, 3), 25);
        y.weigh(0, 26);
        // 2: 126, 7574 above 7560
        broken("not IN SPAN at STAGE 2", y, 7, 2);
        LoadSpans z = Texts.loader("hold a 99 back;spot 0 99;spot 99 99;stop;stop;", "pallet a 30 2;pallet b 30 1;");
        z.put(0, 0);
        z.put(1, 1);
        // while both are aboard they level each other; behind the first stop red alone draws to 0
        broken("not IN SPAN behind the first stop", z, 7, 1);
        z.put(0, 0);
        is("IN SPAN again behind the second", z.stage(2, 1), 5000);
    }

    private static void stages() {
        LoadSpans x = laid(1, 2, 3);
        // 200*50 + 30*52 + 20*45 + 25*50 + 10*55 + 5*30 + 4*70
        int[][] due = {{294, 14690}, {284, 14170}, {264, 13270}, {249, 12490}, {224, 11240}};
        for (int i = 0; i < 5; i++) {
            is("stage(" + i + ", 0)", x.stage(i, 0), due[i][0]);
            is("stage(" + i + ", 1)", x.stage(i, 1), due[i][1]);
            is("stage(" + i + ", 2)", x.stage(i, 2), due[i][1] - 45 * due[i][0]);
            is("stage(" + i + ", 3)", x.stage(i, 3), 55 * due[i][0] - due[i][1]);
        }
        is("stage(5, 0)", x.stage(5, 0), -1000000);
        is("stage(-1, 0)", x.stage(-1, 0), -1000000);
        is("stage(0, 4)", x.stage(0, 4), -1000000);
        is("stage(0, -1)", x.stage(0, -1), -1000000);
        x.off(0);
        is("one that is OUT is not aboard", x.stage(0, 0), 274);
        LoadSpans y = Texts.loader("tank a 10 5;burn a 5;tank b 20 7;burn b 7;", "");
        is("a TANK told behind a burn is there at first", y.stage(0, 0), 112);
        is("its MOMENT", y.stage(0, 1), 5000 + 50 + 140);
        is("behind both burns", y.stage(2, 0), 100);
    }

    private static void blocks() {
        LoadSpans x = laid(2, 1, 0);
        is("blocks(0)", x.blocks(0), 6);
        is("blocks(1)", x.blocks(1), 4);
        is("blocks(2)", x.blocks(2), 0);
        x.off(1);
        is("blocks(0)", x.blocks(0), 4);
        is("blocks(1), OUT", x.blocks(1), 0);
        is("blocks(3)", x.blocks(3), -1);
        is("blocks(-1)", x.blocks(-1), -1);
        LoadSpans y = Texts.loader(PLANE, "pallet a 1 9;pallet b 1 9;pallet c 1 8;");
        y.put(0, 0);
        y.put(1, 1);
        y.put(2, 2);
        is("STOPS that never come block too", y.blocks(2), 3);
        is("a like STOP does not block", y.blocks(1), 0);
    }

    private static void loadings() {
        LoadSpans x = Texts.loader("hold a 99 front;spot 50 10;spot 50 20;spot 50 10;bin 50 3;bin 50 4;",
            "pallet a 10 1;pallet b 11 1;bulk 5;");
        // b must be on 1; a on 0 or 2; BINS 1+4, 2+3, 3+2
        is("loadings()", x.loadings(), 6);
        int[][] due = {{0, 1, 1, 4}, {0, 1, 2, 3}, {0, 1, 3, 2}, {2, 1, 1, 4}, {2, 1, 2, 3}, {2, 1, 3, 2}};
        for (int i = 0; i < 6; i++) {
            for (int k = 0; k < 2; k++) {
                is("loading(" + i + ", " + k + ")", x.loading(i, k), due[i][k]);
                is("poured(" + i + ", " + k + ")", x.poured(i, k), due[i][2 + k]);
            }
        }
        is("loading(6, 0)", x.loading(6, 0), -1);
        is("loading(-1, 0)", x.loading(-1, 0), -1);
        is("loading(0, 2)", x.loading(0, 2), -1);
        is("loading(0, -1)", x.loading(0, -1), -1);
        is("poured(6, 0)", x.poured(6, 0), -1);
        is("poured(-1, 0)", x.poured(-1, 0), -1);
        is("poured(0, 2)", x.poured(0, 2), -1);
        is("poured(0, -1)", x.poured(0, -1), -1);
        x.put(0, 1);
        x.pour(0, 2);
        is("whatever lies where now", x.loadings(), 6);
        x.weigh(0, 11);
        is("two that need one SPOT", x.loadings(), 0);
        is("loading(0, 0)", x.loading(0, 0), -1);
        x.drop(0);
        is("one less", x.loadings(), 3);
        is("more bulk than BINS", Texts.loader("bin 5 5;", "bulk 6;").loadings(), 0);
        is("bulk without BINS", Texts.loader("", "bulk 1;").loadings(), 0);
        is("one BIN", Texts.loader("bin 50 5;", "bulk 5;").loadings(), 1);
        is("more PALLETS than SPOTS", Texts.loader("hold a 9 front;spot 50 9;", "pallet a 1 1;pallet b 1 1;").loadings(), 0);
        LoadSpans most = Texts.loader("span 1 99;hold a 999 front;" + "spot 50 9;".repeat(6) + "bin 50 99;bin 50 99;",
            "pallet a 1 1;pallet b 1 1;pallet c 1 1;pallet d 1 1;pallet e 1 1;bulk 99;");
        is("the most there can be", most.loadings(), 72000);
        is("the last of them", most.loading(71999, 0), 5);
        is("the last of them", most.loading(71999, 4), 1);
        is("the last of them", most.poured(71999, 0), 99);
        is("the last of them", most.poured(71999, 1), 0);
        is("behind the last", most.poured(72000, 1), -1);
    }

    /** Where BINS are at one ARM, the bounds of the span are the PALLETS' alone: just at it, one past it. */
    private static void bounds() {
        String plane = "span 40 60;hold a 99 front;spot 0 99;spot 99 99;bin 50 5;bin 50 5;";
        // with 4 at 50: 5200 + 0 by w is not below 40 by (104 + w) up to w = 26; 5200 + 99w not above 60 by it up to 26
        is("at 26 kg on 0, on 99", Texts.loader(plane, "pallet a 26 1;bulk 4;").loadings(), 10);
        is("at 27 kg", Texts.loader(plane, "pallet a 27 1;bulk 4;").loadings(), 0);
        String just = "span 39 50;hold a 99 front;spot 50 99;";
        is("just at the greater ARM", Texts.loader(just, "pallet a 5 1;").loadings(), 1);
        is("just at the lesser ARM", Texts.loader(just.replace("39 50", "50 51"), "pallet a 5 1;").loadings(), 1);
        is("above the greater ARM", Texts.loader(just.replace("39 50", "39 49"), "pallet a 5 1;").loadings(), 0);
        is("below the lesser ARM", Texts.loader(just.replace("39 50", "51 59"), "pallet a 5 1;").loadings(), 0);
    }

    /** Which amounts are GOOD is another for each SPOT, and mend() leaves the BINS as they are. */
    private static void mendsWithBins() {
        LoadSpans x = Texts.loader("span 49 51;hold a 99 front;spot 40 99;spot 50 99;spot 60 99;bin 30 20;bin 70 20;",
            "pallet a 10 1;bulk 20;");
        // 5000 + 10 by the SPOT's ARM + 30n + 70(20 - n), from 49 to 51 by 130: 6370 to 6630
        for (int n = 0; n <= 20; n++) {
            x.pour(0, n);
            x.pour(1, 20 - n);
            int least = -1;
            for (int s = 2; s >= 0; s--) {
                int moment = 5000 + 10 * (40 + 10 * s) + 30 * n + 70 * (20 - n);
                least = moment >= 49 * 130 && moment <= 51 * 130 ? s : least;
            }
            is("mend() with " + n, x.mend(), least == -1 ? -1 : 1);
            is("move(0) with " + n, least == -1 ? -1 : x.move(0), least);
        }
    }

    /** BINS at other ARMS: how much is GOOD where, to the very unit, on both sides. */
    private static void slopes() {
        // 100 at 50 and 20 in BINS at a, b: MOMENT 5000 + 20b + n(a - b), to be from 49 to 51 by 120
        int[][] arms = {{99, 1}, {1, 99}, {50, 50}, {0, 50}, {50, 0}, {60, 61}, {99, 98}};
        for (int[] pair : arms) {
            LoadSpans x = Texts.loader("span 49 51;bin " + pair[0] + " 20;bin " + pair[1] + " 20;", "bulk 20;");
            int found = 0;
            for (int n = 0; n <= 20; n++) {
                int moment = 5000 + n * pair[0] + (20 - n) * pair[1];
                if (moment >= 49 * 120 && moment <= 51 * 120) {
                    is(pair[0] + " " + pair[1] + " poured", x.poured(found, 0), n);
                    is(pair[0] + " " + pair[1] + " poured", x.poured(found, 1), 20 - n);
                    found++;
                }
            }
            is(pair[0] + " " + pair[1] + " loadings()", x.loadings(), found);
        }
    }

    private static void takes() {
        LoadSpans x = Texts.loader("hold a 99 front;spot 50 10;spot 50 20;spot 50 10;bin 50 3;bin 50 4;",
            "pallet a 10 1;pallet b 11 1;bulk 5;");
        is("take(6)", x.take(6), -1);
        is("take(-1)", x.take(-1), -1);
        is("nothing to undo", x.undo(), -1);
        is("take(4)", x.take(4), 2);
        is("pallet(0, 2)", x.pallet(0, 2), 2);
        is("in(0, 0)", x.in(0, 0), 2);
        is("in(0, 1)", x.in(0, 1), 3);
        is("why()", x.why(), 0);
        is("take(1)", x.take(1), 1);
        is("take(0)", x.take(0), 0);
        is("in(0, 1)", x.in(0, 1), 4);
        is("undo()", x.undo(), 2);
        is("in(0, 1)", x.in(0, 1), 3);
        is("undo()", x.undo(), 1);
        is("pallet(0, 2)", x.pallet(0, 2), 2);
        is("undo()", x.undo(), 0);
        is("count(9)", x.count(9), 2);
    }

    private static void handlings() {
        // one HOLD with its DOOR in front of SPOT 0; c may be on 2 alone
        LoadSpans x = Texts.loader("hold a 99 front;spot 50 5;spot 50 5;spot 50 9;", "pallet a 1 1;pallet b 1 1;pallet c 9 1;");
        is("loadings()", x.loadings(), 2);
        is("loading(0, 0)", x.loading(0, 0), 0);
        is("all are OUT", x.handlings(0), 3);
        x.put(0, 0);
        is("a is in: it stands in the way of both", x.handlings(0), 4);
        x.put(1, 1);
        is("a, b out, all in", x.handlings(0), 5);
        x.put(2, 2);
        is("it lies so", x.handlings(0), 0);
        is("a, b change places", x.handlings(1), 4);
        x.off(0);
        is("a alone is OUT", x.handlings(0), 1);
        is("handlings(2)", x.handlings(2), -1);
        is("handlings(-1)", x.handlings(-1), -1);
        // DOORS behind: one farther from it goes over the others
        LoadSpans y = Texts.loader("hold a 99 back;spot 50 9;spot 50 5;spot 50 5;", "pallet a 1 1;pallet b 1 1;pallet c 9 1;");
        y.put(2, 1);
        y.put(0, 2);
        is("loading(1, 0)", y.loading(1, 0), 2);
        is("a out, c out, c, b, a in", y.handlings(1), 5);
        // another HOLD's PALLETS are in no one's way
        LoadSpans z = Texts.loader("hold a 99 front;spot 50 5;hold b 99 front;spot 50 9;", "pallet a 1 1;pallet b 9 1;");
        z.put(0, 0);
        is("b goes in at its own DOOR", z.handlings(0), 1);
    }

    private static void mends() {
        LoadSpans x = Texts.loader("hold a 99 front;spot 50 5;spot 50 9;spot 50 20;", "pallet a 9 1;pallet b 5 1;");
        is("mend()", x.mend(), 2);
        is("move(0)", x.move(0), 1);
        is("move(1)", x.move(1), 10);
        is("move(2)", x.move(2), -1);
        is("move(-1)", x.move(-1), -1);
        is("nothing is done", x.count(9), 2);
        is("nothing to undo", x.undo(), -1);
        x.put(0, 0);
        x.put(1, 1);
        is("a on 0, b on 1", x.mend(), 1);
        is("a to 2 is enough", x.move(0), 2);
        is("mended()", x.mended(), 1);
        is("pallet(0, 2)", x.pallet(0, 2), 2);
        is("mended() again", x.mended(), 0);
        is("undo()", x.undo(), 2);
        is("pallet(0, 2)", x.pallet(0, 2), 0);
        is("told still", x.move(0), 2);
        x.weigh(0, 21);
        is("it can't be", x.mend(), -1);
        is("mended(): it can't be", x.mended(), -1);
        is("the moves told before", x.move(0), 2);
        x.undo();
        x.mended();
        is("mend() of a GOOD one", x.mend(), 0);
        is("no moves then", x.move(0), -1);
        LoadSpans y = Texts.loader("hold a 99 front;spot 50 5;bin 50 5;", "pallet a 5 1;bulk 2;");
        is("BINS as they are", y.mend(), -1);
        y.pour(0, 2);
        is("BINS as they are", y.mend(), 1);
        y.pour(0, 3);
        is("BINS as they are", y.mend(), -1);
        LoadSpans z = Texts.loader("hold a 99 front;spot 50 5;spot 50 9;", "pallet a 9 1;pallet b 5 1;");
        z.put(0, 0);
        z.put(1, 1);
        is("no SPOT is empty", z.mend(), -1);
        z.off(0);
        is("a is OUT, b on 1", z.mend(), 2);
        is("move(0)", z.move(0), 10);
        is("move(1)", z.move(1), 1);
    }

    private static void spares() {
        LoadSpans x = Texts.loader("span 1 99;hold a 50 front;spot 50 30;spot 50 99;joint 45;hold b 999 back;spot 50 99;",
            "pallet a 20 1;pallet b 15 1;pallet c 99 1;");
        is("not GOOD", x.spare(0), -1);
        x.put(0, 0);
        x.put(1, 1);
        x.put(2, 2);
        is("not above SPOT 2's LIMIT", x.spare(2), 0);
        is("its SPOT's LIMIT, the JOINT", x.spare(0), 10);
        is("the JOINT", x.spare(1), 10);
        is("spare(3)", x.spare(3), -1);
        is("spare(-1)", x.spare(-1), -1);
        is("a trial leaves nothing", x.pallet(1, 0), 15);
        is("a trial leaves nothing to undo", x.undo(), 2);
        LoadSpans y = Texts.loader("span 45 55;hold a 999 front;spot 99 99;", "pallet a 1 1;");
        y.put(0, 0);
        // (5000 + 99w) not above (100 + w) by 55: 44w not above 500
        is("the span", y.spare(0), 10);
        LoadSpans z = Texts.loader("hold a 999 front;spot 50 99;", "pallet a 1 1;");
        z.put(0, 0);
        is("up to the SPOT's most", z.spare(0), 98);
        z.weigh(0, 99);
        is("at the SPOT's most", z.spare(0), 0);
    }

    private static void swaps() {
        LoadSpans x = Texts.loader("hold a 99 front;spot 50 9;spot 50 9;spot 50 5;", "pallet a 9 1;pallet b 5 1;pallet c 5 1;");
        is("all are OUT", x.swaps(), 0);
        x.put(0, 0);
        x.put(1, 1);
        is("one is OUT", x.swaps(), 0);
        x.put(2, 2);
        is("a and b, b and c", x.swaps(), 2);
        is("it lies as it did", x.pallet(0, 2), 0);
        is("nothing more to undo", x.undo(), 2);
        x.put(0, 2);
        x.put(2, 0);
        is("a lies on 2: it and b, it and c", x.swaps(), 2);
    }

    private static void comeDropAgainWeigh() {
        LoadSpans x = loader();
        is("come(0, 1)", x.come(0, 1), -1);
        is("come(100, 1)", x.come(100, 1), -1);
        is("come(1, 0)", x.come(1, 0), -1);
        is("come(1, 10)", x.come(1, 10), -1);
        is("come(99, 9)", x.come(99, 9), 3);
        is("pallet(3, 2)", x.pallet(3, 2), -1);
        is("pallet(3, 3)", x.pallet(3, 3), 0);
        is("come(1, 1)", x.come(1, 1), 4);
        is("there are 5", x.come(1, 1), -1);
        x.put(0, 4);
        x.put(2, 0);
        is("drop(5)", x.drop(5), -1);
        is("drop(-1)", x.drop(-1), -1);
        is("drop(1)", x.drop(1), 4);
        is("blue is 1", Texts.named(x, "blue"), 1);
        is("green is none", Texts.named(x, "green"), -1);
        is("blue lies on 0", x.spot(0, 3), 1);
        is("again(0)", x.again(0), 3);
        is("red is the last", Texts.named(x, "red"), 3);
        is("red lies on 4", x.pallet(3, 2), 4);
        is("red weighs 20", x.pallet(3, 0), 20);
        is("red's STOP", x.pallet(3, 1), 1);
        is("blue is 0", x.spot(0, 3), 0);
        is("again(3)", x.again(3), 3);
        is("again(4)", x.again(4), -1);
        is("again(-1)", x.again(-1), -1);
        is("weigh(0, 10)", x.weigh(0, 10), 1);
        is("weigh(0, 11)", x.weigh(0, 11), 0);
        is("pallet(0, 0)", x.pallet(0, 0), 11);
        is("weigh(0, 0)", x.weigh(0, 0), -1);
        is("weigh(0, 100)", x.weigh(0, 100), -1);
        is("weigh(4, 5)", x.weigh(4, 5), -1);
        is("weigh(-1, 5)", x.weigh(-1, 5), -1);
    }

    private static void undos() {
        LoadSpans x = loader();
        is("undo()", x.undo(), -1);
        x.put(0, 0);
        x.put(0, 0);
        x.put(0, 9);
        x.put(1, 0);
        x.weigh(0, 20);
        x.pour(0, 0);
        x.off(1);
        x.drop(7);
        x.again(7);
        x.come(0, 0);
        is("put() alone counts", x.undo(), 0);
        x.weigh(0, 21);
        x.pour(1, 3);
        x.come(5, 5);
        x.drop(1);
        x.again(0);
        x.put(0, 3);
        x.off(0);
        is("undo() of off", x.undo(), 6);
        is("on 3 again", x.pallet(0, 2), 3);
        is("undo() of put", x.undo(), 5);
        is("OUT again", x.pallet(0, 2), -1);
        is("undo() of again", x.undo(), 4);
        is("red is 0", Texts.named(x, "red"), 0);
        is("undo() of drop", x.undo(), 3);
        is("green is 1", Texts.named(x, "green"), 1);
        is("count(7)", x.count(7), 4);
        is("undo() of come", x.undo(), 2);
        is("count(7)", x.count(7), 3);
        is("undo() of pour", x.undo(), 1);
        is("in(0, 1)", x.in(0, 1), 0);
        is("undo() of weigh", x.undo(), 0);
        is("pallet(0, 0)", x.pallet(0, 0), 20);
        is("undo()", x.undo(), -1);
        for (int w = 30; w < 41; w++) {
            x.weigh(0, w);
        }
        for (int left = 7; left >= 0; left--) {
            is("8 at most are kept", x.undo(), left);
        }
        is("8 at most are kept", x.undo(), -1);
        is("the third weight", x.pallet(0, 0), 32);
    }

    private static void images() {
        LoadSpans x = laid(1, 2, 3);
        is("image(2)", x.image(2), false);
        is("image(-1)", x.image(-1), false);
        is("restore(1)", x.restore(1), false);
        is("image(0)", x.image(0), true);
        is("restore(1)", x.restore(1), false);
        is("restore(2)", x.restore(2), false);
        is("restore(-1)", x.restore(-1), false);
        x.off(0);
        x.weigh(1, 7);
        x.come(3, 3);
        is("image(1)", x.image(1), true);
        Texts.plane(x, "hold z 9 front;spot 50 9;");
        Texts.cargo(x, "pallet z 9 1;");
        is("mend()", x.mend(), 1);
        is("a FAULT", Texts.cargo(x, "bulk 199;"), -1005);
        x.put(0, 0);
        x.feed(0, 0, 0, 0, 0);
        is("restore(0)", x.restore(0), true);
        is("nothing undone", x.undo(), -1);
        is("the tape stays", x.count(10), 20);
        is("FAULT stays", x.fault(), 2);
        is("MOVES told stay", x.move(0), 0);
        is("count(1)", x.count(1), 5);
        is("count(7)", x.count(7), 3);
        is("count(8)", x.count(8), 9);
        is("pallet(0, 2)", x.pallet(0, 2), 1);
        is("in(0, 1)", x.in(0, 1), 4);
        is("stage(4, 1)", x.stage(4, 1), 11240);
        is("named() red", Texts.named(x, "red"), 0);
        x.put(0, 0);
        is("restore(1)", x.restore(1), true);
        is("count(7)", x.count(7), 4);
        is("pallet(0, 2)", x.pallet(0, 2), -1);
        is("pallet(1, 0)", x.pallet(1, 0), 7);
        is("restore(0) once more", x.restore(0), true);
        is("pallet(0, 2)", x.pallet(0, 2), 1);
        is("loadings() anew", x.loadings(), loader().loadings());
        LoadSpans y = Texts.loader("tank a 1 90;tank b 99 9;stop;" + "burn a 5;".repeat(9) + "stop;burn b 9;"
            + "hold h 9 front;spot 50 9;", "pallet a 9 2;");
        y.put(0, 0);
        int[] weights = new int[13];
        int[] moments = new int[13];
        for (int i = 0; i < 13; i++) {
            weights[i] = y.stage(i, 0);
            moments[i] = y.stage(i, 1);
        }
        is("the last STAGE", weights[12] * 100000L + moments[12], 145 * 100000L + 5045);
        y.image(1);
        Texts.plane(y, "");
        is("one STAGE", y.stage(1, 0), -1000000);
        y.restore(1);
        for (int i = 0; i < 13; i++) {
            is("restored: stage(" + i + ", 0)", y.stage(i, 0), weights[i]);
            is("restored: stage(" + i + ", 1)", y.stage(i, 1), moments[i]);
        }
    }
}
