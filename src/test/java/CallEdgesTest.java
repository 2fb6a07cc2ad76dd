import java.util.List;

/** The edges of the promises: a test for each sentence of theirs that names one. Refused calls: RefusedCallsTest. */
public final class CallEdgesTest {
    private static final Edges E = new Edges("CallEdgesTest");
    private static final String SIX = "span 1 99;hold a 999 front;" + "spot 50 99;".repeat(6);
    private static final String FIVE = "pallet a 1 1;pallet bb 1 1;pallet c 1 1;pallet d 1 1;pallet abcdefgh 1 1;";
    /** All that a text may have at most, but for its bytes. */
    private static final String MOST = "empty 999 50;span 1 99;hold a 999 front;spot 50 99;spot 50 99;joint 999;spot 50 99;"
        + "joint 999;hold b 999 back;spot 50 99;spot 50 99;joint 999;hold c 999 back;spot 50 99;bin 50 99;bin 50 99;"
        + "tank d 50 99;tank e 50 99;tank f 50 99;" + "burn d 1;".repeat(8) + "stop;".repeat(4);
    private static final int[] NO_PLACE = {Integer.MIN_VALUE, -1, 2, 3, 256, Integer.MAX_VALUE};

    public static void main(String[] args) {
        calls();
        newObject();
        feed();
        end();
        plane();
        tapeIsEmptyThen();
        cargo();
        fault();
        count();
        pallet();
        named();
        spot();
        in();
        put();
        off();
        pour();
        whyAndWhere();
        stage();
        blocks();
        loadings();
        take();
        handlings();
        mend();
        move();
        mended();
        spare();
        swaps();
        come();
        drop();
        again();
        weigh();
        undo();
        undoOfEach();
        images();
        restores();
        E.close();
    }

    private static LoadSpans most() {
        return Texts.loader(MOST, FIVE + "bulk 99;");
    }

    private static LoadSpans allOn() {
        LoadSpans x = Texts.loader(SIX, FIVE);
        for (int k = 0; k < 5; k++) {
            x.put(k, k);
        }
        return x;
    }

    private static void calls() {
        E.sentence("An object is used for at most 512 calls after it has been made; what later calls answer is free.");
        LoadSpans x = new LoadSpans();
        for (int call = 1; call < 512; call += 2) {
            x.come(1, 1);
            E.is("call " + (call + 1), x.drop(0), 0);
        }
        LoadSpans y = most();
        // the texts took calls, too: what is left of the 512 is used up but for the last two
        int told = 2 * 2 + (MOST.length() + 19) / 20 + 2 + (FIVE.length() + 8 + 19) / 20;
        for (int call = told + 1; call < 511; call++) {
            y.weigh(call % 5, 2 + call % 97);
        }
        y.take(71999);
        E.is("the 512th call", y.why(), 0);
    }

    private static void newObject() {
        E.sentence("A PLANE of nothing; no CARGO; an empty tape.");
        LoadSpans x = new LoadSpans();
        for (int what = 0; what <= 10; what++) {
            E.is("count(" + what + ")", x.count(what), 0);
        }
        E.is("stage(0, 0)", x.stage(0, 0), 100);
        E.is("stage(0, 1)", x.stage(0, 1), 5000);
        E.is("plane() of the empty tape", x.plane(), 0);
        E.is("cargo() of the empty tape", x.cargo(), 0);
        E.is("named() of the empty tape", x.named(), -1);
        E.is("move(0)", x.move(0), -1);
        E.is("undo()", x.undo(), -1);
        E.is("restore(0)", x.restore(0), false);
        E.is("restore(1)", x.restore(1), false);
    }

    private static void feed() {
        E.sentence("Twenty bytes come behind the tape, of each number the highest first: how many it has;");
        LoadSpans x = new LoadSpans();
        E.is("the first twenty", x.feed(0x686f6c64, 0x20616263, 0x64203939, 0x39206672, 0x6f6e743b), 20);
        E.is("the next", x.feed(0x73706f74, 0x20312032, 0x3b202020, 0x20202020, 0x73746f70), 40);
        E.is("the next", x.feed(0x3b202020, 0x20202020, 0x20202020, 0x20202020, 0x2020203b), 60);
        E.is("end(59)", x.end(59), true);
        E.is("plane() of 'hold abcd 999 front;spot 1 2; .. stop;'", x.plane(), 1);
        E.is("LIMIT of the SPOT", x.spot(0, 2), 2);
        E.is("stops", x.count(6), 1);
        x.feed(0x20202020, 0x20202020, 0x20202020, 0x20202020, 0x20202080);
        E.is("a byte of 128, the last of twenty", x.plane(), -1019);
        x.feed(0x20202020, 0x20202020, 0x2020ff20, 0x20202020, 0x20202020);
        E.is("a byte of 255", x.plane(), -1010);
        x.feed(-1, -1, -1, -1, -1);
        E.is("all of 255", x.plane(), -1000);
        x.feed(0x20202020, 0x20202020, 0x20202020, 0x20202020, 0x20202020);
        x.feed(Integer.MIN_VALUE, 0, 0, 0, 0);
        E.is("a number below 0", x.plane(), -1020);
        E.sentence("NONE, and none come, if it would have more than 540.");
        int blank = 0x20202020;
        for (int many = 20; many <= 540; many += 20) {
            E.is("feed", x.feed(blank, blank, blank, blank, blank), many);
        }
        E.is("full", x.feed(-1, -1, -1, -1, -1), -1);
        E.is("count(10)", x.count(10), 540);
        for (int left = 0; left < 20; left++) {
            E.is("end", x.end(540 - left), true);
            E.is("with " + left + " left", x.feed(-1, -1, -1, -1, -1), -1);
            E.is("count(10)", x.count(10), 540 - left);
        }
        E.is("end(520)", x.end(520), true);
        E.is("with 20 left", x.feed(blank, blank, blank, blank, blank), 540);
        E.is("end(500)", x.end(500), true);
        E.is("none came into the tape", x.plane(), 0);
    }

    private static void end() {
        E.sentence("The tape has its first n bytes alone: true; false, if it has not so many, or n is below 0.");
        LoadSpans x = new LoadSpans();
        E.is("end(0) of none", x.end(0), true);
        E.is("end(1) of none", x.end(1), false);
        E.is("end(-1) of none", x.end(-1), false);
        x.feed(0x73746f70, 0x3b212121, 0x21212121, 0x21212121, 0x21212121);
        for (int n : new int[] {21, 22, 540, 541, Integer.MAX_VALUE, -1, -2, -20, Integer.MIN_VALUE}) {
            E.is("end(" + n + ") of 20", x.end(n), false);
            E.is("count(10)", x.count(10), 20);
        }
        E.is("end(20) of 20", x.end(20), true);
        E.is("count(10)", x.count(10), 20);
        E.is("end(19) of 20", x.end(19), true);
        E.is("end(20) of 19", x.end(20), false);
        E.is("end(5)", x.end(5), true);
        x.feed(0x73746f70, 0x3b212121, 0x21212121, 0x21212121, 0x21212121);
        E.is("count(10)", x.count(10), 25);
        x.end(10);
        E.is("plane() of 'stop;stop;'", x.plane(), 0);
        E.is("two stops", x.count(6), 2);
        x.feed(0x73746f70, 0x3b212121, 0x21212121, 0x21212121, 0x21212121);
        E.is("end(0)", x.end(0), true);
        E.is("plane() of none", x.plane(), 0);
        E.is("no stop", x.count(6), 0);
        for (int i = 0; i < 27; i++) {
            x.feed(0, 0, 0, 0, 0);
        }
        E.is("end(541) of 540", x.end(541), false);
        E.is("end(540) of 540", x.end(540), true);
        cutOff();
    }

    /** What stood behind the first n bytes is not read, whatever it was. */
    private static void cutOff() {
        LoadSpans x = new LoadSpans();
        E.is("'stop' of 'stop ..'", cutPlane(x, "stop                ", 4), -1004);
        E.is("'stop ' of 'stop   ..'", cutPlane(x, "stop                ", 5), -1005);
        E.is("'sto' of 'stop;'", cutPlane(x, "stop;", 3), -1000);
        E.is("'stop' of 'stop;'", cutPlane(x, "stop;", 4), -1004);
        E.is("'stop' of 'stopp;'", cutPlane(x, "stopp;", 4), -1004);
        E.is("'stop;' of 'stop;;'", cutPlane(x, "stop;;", 5), 0);
        E.is("'empty 1' of 'empty 10'", cutPlane(x, "empty 10 5;", 7), -1007);
        E.is("'empty 0' of 'empty 01'", cutPlane(x, "empty 01 5;", 7), -1006);
        E.is("'' of '!'", cutPlane(x, "!", 0), 0);
        Texts.cargo(x, "pallet ab 1 1;pallet a 1 1;");
        Texts.tell(x, "ab");
        x.end(1);
        E.is("'a' of 'ab'", x.named(), 1);
        Texts.tell(x, "ab");
        x.end(0);
        E.is("'' of 'ab'", x.named(), -1);
    }

    private static int cutPlane(LoadSpans x, String text, int n) {
        Texts.tell(x, text);
        x.end(n);
        return x.plane();
    }

    private static void plane() {
        E.sentence("how many SPOTS; -1000 less the place of a FAULT: it stays.");
        E.plane("", 0);
        E.plane(SIX, 6);
        E.planeFault("!", 1, 0);
        E.planeFault(" ".repeat(499) + "!", 1, 499);
        E.planeFault(" ".repeat(501), 1, 500);
        E.sentence("(all PALLETS are OUT, nothing in BINS; nothing can be undone)");
        LoadSpans x = most();
        for (int k = 0; k < 5; k++) {
            x.put(k, k);
        }
        x.pour(0, 99);
        x.pour(1, 99);
        E.is("the same PLANE again", Texts.plane(x, MOST), 6);
        E.is("all are OUT", x.count(9), 5);
        E.is("in BIN 0", x.in(0, 0), 0);
        E.is("in BIN 1", x.in(0, 1), 0);
        E.is("undo()", x.undo(), -1);
        E.is("bulk stays", x.count(8), 99);
        x.put(4, 5);
        x.pour(1, 1);
        E.is("without SPOTS and BINS", Texts.plane(x, ""), 0);
        E.is("all are OUT", x.count(9), 5);
        E.is("undo()", x.undo(), -1);
        E.is("with SPOTS and BINS again", Texts.plane(x, MOST), 6);
        E.is("all are OUT", x.count(9), 5);
        E.is("in BIN 1", x.in(0, 1), 0);
    }

    private static void tapeIsEmptyThen() {
        E.sentence("The tape (empty then, with a FAULT, too, here and below)");
        LoadSpans x = new LoadSpans();
        E.is("plane()", Texts.plane(x, "stop;"), 0);
        E.is("behind plane()", x.count(10), 0);
        E.is("plane() with a FAULT", Texts.plane(x, "stop"), -1004);
        E.is("behind a FAULT", x.count(10), 0);
        E.is("plane() of too many", Texts.plane(x, " ".repeat(540)), -1500);
        E.is("behind too many", x.count(10), 0);
        E.is("cargo()", Texts.cargo(x, "pallet a 1 1;"), 1);
        E.is("behind cargo()", x.count(10), 0);
        E.is("cargo() with a FAULT", Texts.cargo(x, "pallet"), -1006);
        E.is("behind a FAULT", x.count(10), 0);
        E.is("named()", Texts.named(x, "a"), 0);
        E.is("behind named()", x.count(10), 0);
        E.is("named() of none", Texts.named(x, "b"), -1);
        E.is("behind named() of none", x.count(10), 0);
        E.is("plane() then", x.plane(), 0);
        E.is("is a PLANE of nothing", x.count(6), 0);
    }

    private static void cargo() {
        E.sentence("The tape is the CARGO now (likewise): how many PALLETS; -1000 less the place of a FAULT.");
        E.cargo("", 0);
        E.cargo(FIVE, 5);
        E.cargoFault("!", 1, 0);
        E.cargoFault(" ".repeat(299) + "!", 1, 299);
        E.cargoFault(" ".repeat(301), 1, 300);
        LoadSpans x = most();
        for (int k = 0; k < 5; k++) {
            x.put(k, k);
        }
        x.pour(0, 99);
        x.pour(1, 99);
        E.is("the same CARGO again", Texts.cargo(x, FIVE), 5);
        E.is("all are OUT", x.count(9), 5);
        E.is("in BIN 0", x.in(0, 0), 0);
        E.is("in BIN 1", x.in(0, 1), 0);
        E.is("undo()", x.undo(), -1);
        E.is("bulk without", x.count(8), 0);
        E.is("the PLANE stays", x.count(5), 12);
        x.come(1, 1);
        x.drop(0);
        E.is("less PALLETS than there were", Texts.cargo(x, "pallet z 9 9;"), 1);
        E.is("pallet(0, 0)", x.pallet(0, 0), 9);
        E.is("pallet(1, 0)", x.pallet(1, 0), -1);
        E.is("none at all", Texts.cargo(x, ""), 0);
        E.is("pallet(0, 0)", x.pallet(0, 0), -1);
        E.is("undo()", x.undo(), -1);
    }

    private static void fault() {
        E.sentence("The kind of the FAULT of the latest plane(), cargo(); 0 without one and ahead of any.");
        LoadSpans x = new LoadSpans();
        E.is("ahead of any", x.fault(), 0);
        String[] planes = {"!", "empty 0 0;", "burn a 1;", "stop;stop;stop;stop;stop;", "spot 1 1;"};
        for (int kind = 1; kind <= 5; kind++) {
            Texts.plane(x, planes[kind - 1]);
            E.is("of plane() " + planes[kind - 1], x.fault(), kind);
        }
        Texts.cargo(x, "bulk 5;");
        E.is("cargo() without", x.fault(), 0);
        String[] cargoes = {"!", "bulk 199;", "bulk 1;bulk 1;", FIVE + "pallet"};
        for (int kind = 1; kind <= 4; kind++) {
            Texts.cargo(x, cargoes[kind - 1]);
            E.is("of cargo() " + cargoes[kind - 1], x.fault(), kind);
        }
        x.come(0, 0);
        Texts.named(x, "!");
        x.put(-1, -1);
        x.image(0);
        E.is("other calls leave it", x.fault(), 4);
        x.restore(0);
        E.is("restore() leaves it", x.fault(), 4);
        Texts.plane(x, "");
        E.is("plane() without", x.fault(), 0);
    }

    private static void count() {
        E.sentence("0 HOLDS, 1 SPOTS, 2 JOINTS, 3 BINS, 4 TANKS, 5 burns and stops, 6 stops, 7 PALLETS, 8 bulk as told,"
            + " 9 PALLETS that are OUT, 10 bytes of the tape. NONE for another what.");
        LoadSpans none = new LoadSpans();
        LoadSpans x = Texts.loader(MOST, FIVE + "bulk 198;");
        for (int i = 0; i < 27; i++) {
            x.feed(0, 0, 0, 0, 0);
        }
        int[] most = {3, 6, 3, 2, 3, 12, 4, 5, 198, 5, 540};
        for (int what = 0; what <= 10; what++) {
            E.is("none: count(" + what + ")", none.count(what), 0);
            E.is("most: count(" + what + ")", x.count(what), most[what]);
        }
        E.noSuchOne("count", x::count, 11, -1);
        E.noSuchOne("count of a new one", none::count, 11, -1);
        E.is("5 JOINTS", E.plane("hold a 9 front;spot 1 1;" + "spot 1 1;joint 1;".repeat(5), 6).count(2), 5);
    }

    private static void pallet() {
        E.sentence("3 how many bytes its NAME has (0: it came without). NONE: no such ones.");
        LoadSpans x = most();
        int[] sizes = {1, 2, 1, 1, 8};
        for (int k = 0; k < 5; k++) {
            E.is("pallet(" + k + ", 3)", x.pallet(k, 3), sizes[k]);
            E.is("pallet(" + k + ", 2), OUT", x.pallet(k, 2), -1);
        }
        E.noSuchOnes("pallet", x::pallet, 5, 4, -1);
        x.drop(0);
        E.noSuchOnes("pallet of four", x::pallet, 4, 4, -1);
        x.come(99, 9);
        E.is("it came without", x.pallet(4, 3), 0);
        E.is("WEIGHT", x.pallet(4, 0), 99);
        E.is("STOP", x.pallet(4, 1), 9);
        E.noSuchOnes("pallet of a new one", new LoadSpans()::pallet, 0, 4, -1);
    }

    private static void named() {
        E.sentence("The PALLET of a NAME, which the tape tells (just these bytes); NONE: there is none such.");
        LoadSpans x = most();
        String[] names = {"a", "bb", "c", "d", "abcdefgh"};
        for (int k = 0; k < 5; k++) {
            E.is("named() " + names[k], Texts.named(x, names[k]), k);
        }
        for (String other : new String[] {"", " ", "b", "bbb", "A", "a ", " a", "a;", "a\u0000", "\u0000a", "e", "abcdefg",
            "abcdefghi", "abcdefgha", "bcdefgh", "abcdefgi", "1", "a1", "\u00e1", "`", "pallet", "aa", "aA", "`a",
            "``a", "aB", "aC", "bC", "`bb"}) {
            E.is("named() '" + other + "'", Texts.named(x, other), -1);
        }
        E.is("named() of 540 bytes", Texts.named(x, "a".repeat(540)), -1);
        x.come(1, 1);
        x.drop(0);
        x.come(1, 1);
        E.is("one that came without is not called ''", Texts.named(x, ""), -1);
        E.is("a went", Texts.named(x, "a"), -1);
        E.is("bb is one less", Texts.named(x, "bb"), 0);
        x.again(0);
        E.is("bb came again", Texts.named(x, "bb"), 4);
        E.is("of no CARGO", Texts.named(new LoadSpans(), "a"), -1);
    }

    private static void spot() {
        E.sentence("3 the PALLET on it (NONE), 4 SPOTS on its way to the DOOR as bits. NONE: no such ones.");
        LoadSpans x = most();
        int[] ways = {0, 1, 3, 16, 0, 0};
        for (int s = 0; s < 6; s++) {
            E.is("spot(" + s + ", 3), empty", x.spot(s, 3), -1);
            E.is("spot(" + s + ", 4)", x.spot(s, 4), ways[s]);
        }
        x.put(4, 5);
        x.put(0, 0);
        E.is("the last on the last", x.spot(5, 3), 4);
        E.is("the first on the first", x.spot(0, 3), 0);
        E.noSuchOnes("spot", x::spot, 6, 5, -1);
        E.noSuchOnes("spot of one", E.plane("hold a 9 front;spot 1 1;", 1)::spot, 1, 5, -1);
        E.noSuchOnes("spot of none", new LoadSpans()::spot, 0, 5, -1);
    }

    private static void in() {
        E.sentence("What is in a BIN now (0), in a TANK at first (1), WEIGHTS in a HOLD now (2). NONE: no such ones.");
        LoadSpans x = most();
        x.pour(1, 99);
        x.put(0, 5);
        x.put(4, 4);
        int[][] due = {{0, 99, -1, -1}, {99, 99, 99, -1}, {0, 1, 1, -1}};
        for (int what = 0; what < 3; what++) {
            for (int k = 0; k < 4; k++) {
                E.is("in(" + what + ", " + k + ")", x.in(what, k), due[what][k]);
            }
            int here = what;
            E.noSuchOne("in of " + what, k -> x.in(here, k), due[what][2] < 0 ? 2 : 3, -1);
        }
        E.noSuchOnes("in", x::in, 3, 3, -1);
        E.noSuchOnes("in of a new one", new LoadSpans()::in, 3, 0, -1);
    }

    private static void put() {
        E.sentence("A PALLET comes to a SPOT: 0; 1: another one lies there; 2: it lies there; NONE: no such ones.");
        LoadSpans x = most();
        E.is("the last to the last", x.put(4, 5), 0);
        E.is("again", x.put(4, 5), 2);
        E.is("another one", x.put(0, 5), 1);
        E.is("the first to the first", x.put(0, 0), 0);
        E.is("another one, which lies elsewhere", x.put(4, 0), 1);
        E.is("it lies where it did", x.pallet(4, 2), 5);
        E.is("to another SPOT", x.put(4, 1), 0);
        E.is("it is there now", x.pallet(4, 2), 1);
        E.is("and not here", x.spot(5, 3), -1);
        E.noSuchOnes("put", x::put, 5, 6, -1);
        E.noSuchOnes("put of no PALLET", E.plane(SIX, 6)::put, 0, 6, -1);
        E.noSuchOnes("put without SPOTS", E.cargo(FIVE, 5)::put, 5, 0, -1);
    }

    private static void off() {
        E.sentence("It goes OUT: the SPOT on which it lay; NONE: it is OUT, no such one.");
        LoadSpans x = most();
        E.is("it is OUT", x.off(0), -1);
        x.put(0, 0);
        x.put(4, 5);
        E.is("from the first", x.off(0), 0);
        E.is("it is OUT", x.off(0), -1);
        E.is("from the last", x.off(4), 5);
        E.is("the SPOT is empty", x.spot(5, 3), -1);
        E.noSuchOne("off", x::off, 5, -1);
        E.noSuchOne("off of none", new LoadSpans()::off, 0, -1);
    }

    private static void pour() {
        E.sentence("In a BIN is so much from now on (0 to its LIMIT): 0; 1: it is so; NONE: no such ones.");
        LoadSpans x = Texts.loader("bin 50 1;bin 50 99;", "");
        for (int b = 0; b < 2; b++) {
            int limit = b == 0 ? 1 : 99;
            E.is("0 is so at first", x.pour(b, 0), 1);
            E.is("the LIMIT", x.pour(b, limit), 0);
            E.is("the LIMIT is so", x.pour(b, limit), 1);
            E.is("0", x.pour(b, 0), 0);
            E.is("0 is so", x.pour(b, 0), 1);
            E.is("1", x.pour(b, 1), 0);
            int bin = b;
            E.noSuchOne("pour to " + b, n -> x.pour(bin, n), limit + 1, -1);
            E.is("it is as it was", x.in(0, b), 1);
        }
        E.noSuchOnes("pour", x::pour, 2, 100, -1);
        E.noSuchOnes("pour with one BIN", E.plane("bin 50 9;", 0)::pour, 1, 10, -1);
        E.noSuchOnes("pour without BINS", new LoadSpans()::pour, 0, 1, -1);
    }

    private static void whyAndWhere() {
        E.sentence("The first RULE that is broken; 0: it is GOOD.");
        E.is("a new one", new LoadSpans().why(), 0);
        E.is("all on SPOTS", allOn().why(), 0);
        E.is("all are OUT", most().why(), 1);
        E.sentence("Where that is so (what stands in brackets there); NONE: it is GOOD.");
        E.is("a new one", new LoadSpans().where(), -1);
        E.is("all on SPOTS", allOn().where(), -1);
        E.is("all are OUT", most().where(), 0);
        LoadSpans x = allOn();
        x.off(4);
        E.is("the last one is OUT", x.where(), 4);
        E.is("STAGE 0", Texts.loader("span 51 52;", "").where(), 0);
    }

    private static void stage() {
        E.sentence("At STAGE i: 0 WEIGHT, 1 MOMENT, 2 MOMENT less WEIGHT by the lesser ARM, 3 WEIGHT by the greater ARM less"
            + " MOMENT. -1000000: no such ones.");
        LoadSpans x = most();
        int weight = 999 + 3 * 99;
        for (int i = 0; i <= 12; i++) {
            int left = weight - Math.min(i, 8);
            int[] due = {left, 50 * left, 49 * left, 49 * left};
            for (int what = 0; what < 4; what++) {
                E.is("stage(" + i + ", " + what + ")", x.stage(i, what), due[what]);
            }
        }
        E.noSuchOnes("stage", x::stage, 13, 4, -1000000);
        E.noSuchOnes("stage of a new one", new LoadSpans()::stage, 1, 4, -1000000);
        E.is("above the most of an ARM", E.plane("empty 999 99;span 0 1;", 0).stage(0, 3), 999 - 999 * 99);
        E.is("below the least", E.plane("empty 999 0;span 98 99;", 0).stage(0, 2), -999 * 98);
    }

    private static void blocks() {
        E.sentence("PALLETS that block one (bits; none: 0; also of one that is OUT); NONE: no such one.");
        LoadSpans x = Texts.loader(SIX, "pallet a 1 1;pallet b 1 9;pallet c 1 8;pallet d 1 2;pallet e 1 9;");
        for (int k = 0; k < 5; k++) {
            E.is("OUT: " + k, x.blocks(k), 0);
            x.put(k, 5 - k);
        }
        // from the DOOR: e 9, d 2, c 8, b 9, a 1
        int[] due = {30, 0, 16, 16, 0};
        for (int k = 0; k < 5; k++) {
            E.is("blocks(" + k + ")", x.blocks(k), due[k]);
        }
        x.off(0);
        E.is("the one that was BLOCKED is OUT", x.blocks(0), 0);
        x.put(0, 5);
        x.off(1);
        E.is("one that blocked is OUT", x.blocks(0), 28);
        E.noSuchOne("blocks", x::blocks, 5, -1);
        E.noSuchOne("blocks of none", new LoadSpans()::blocks, 0, -1);
    }

    private static void loadings() {
        E.sentence("GOOD LOADINGS: how many (whatever lies where now).");
        LoadSpans x = most();
        int many = x.loadings();
        E.is("the most there are", many, 72000);
        x.put(0, 5);
        x.pour(0, 7);
        E.is("whatever lies where now", x.loadings(), many);
        E.is("none", E.cargo("pallet a 1 1;", 1).loadings(), 0);
        E.is("one", new LoadSpans().loadings(), 1);
        loadingsAnew();
        E.sentence("Of the i-th of these (from 0): the SPOT of PALLET k. NONE: no such ones.");
        E.is("the first", x.loading(0, 0), 0);
        E.is("the last", x.loading(many - 1, 0), 5);
        E.is("the last's last", x.loading(many - 1, 4), 1);
        E.noSuchOnes("loading", x::loading, many, 5, -1);
        E.noSuchOnes("loading of none", E.cargo("pallet a 1 1;", 1)::loading, 0, 1, -1);
        E.noSuchOnes("loading of no PALLET", new LoadSpans()::loading, 1, 0, -1);
        E.sentence("Of the i-th of these: what is in BIN b. NONE: no such ones.");
        E.is("the first's first", x.poured(0, 0), 0);
        E.is("the first's second", x.poured(0, 1), 99);
        E.is("the last's first", x.poured(many - 1, 0), 99);
        E.is("the last's second", x.poured(many - 1, 1), 0);
        E.noSuchOnes("poured", x::poured, many, 2, -1);
        E.noSuchOnes("poured of one BIN", E.plane("bin 50 9;", 0)::poured, 1, 1, -1);
        E.noSuchOnes("poured of no BIN", new LoadSpans()::poured, 1, 0, -1);
    }

    /** They are asked for, then something that they hang on changes: all are told anew. */
    private static void loadingsAnew() {
        LoadSpans x = Texts.loader(SIX.replaceFirst("99;$", "9;"), "pallet a 9 1;");
        x.image(0);
        E.is("one PALLET", x.loadings(), 6);
        x.weigh(0, 10);
        E.is("behind weigh()", x.loadings(), 5);
        x.undo();
        E.is("behind undo()", x.loadings(), 6);
        x.come(10, 1);
        E.is("behind come()", x.loadings(), 25);
        E.is("the last one's SPOT of the last", x.loading(24, 1), 4);
        x.again(0);
        E.is("behind again()", x.loading(24, 1), 5);
        E.is("behind again()", x.loading(24, 0), 4);
        x.drop(1);
        E.is("behind drop()", x.loadings(), 5);
        x.restore(0);
        E.is("behind restore()", x.loadings(), 6);
        Texts.cargo(x, "pallet a 1 1;pallet b 1 1;");
        E.is("behind cargo()", x.loadings(), 30);
        Texts.plane(x, "hold a 9 front;spot 50 1;spot 50 1;");
        E.is("behind plane()", x.loadings(), 2);
        Texts.plane(x, "spot");
        E.is("behind a FAULT", x.loadings(), 2);
        x.take(1);
        E.is("behind take()", x.loadings(), 2);
        LoadSpans y = Texts.loader("bin 50 9;bin 50 9;", "bulk 9;");
        E.is("two BINS", y.loadings(), 10);
        Texts.plane(y, "bin 50 9;");
        E.is("one BIN", y.loadings(), 1);
        Texts.plane(y, "");
        E.is("no BIN", y.loadings(), 0);
    }

    private static void take() {
        E.sentence("All lies as in the i-th of these: how many PALLETS lie elsewhere than they did; NONE: no such one.");
        LoadSpans x = most();
        E.is("all were OUT", x.take(0), 5);
        E.is("the BINS alone are others", x.take(1), 0);
        E.is("in(0, 0)", x.in(0, 0), 1);
        E.is("in(0, 1)", x.in(0, 1), 98);
        E.is("the last one goes one farther", x.take(100), 1);
        E.is("it is GOOD", x.why(), 0);
        E.is("the last", x.take(71999), 5);
        E.is("the last again", x.take(71999), 0);
        E.is("pallet(0, 2)", x.pallet(0, 2), 5);
        E.is("in(0, 0)", x.in(0, 0), 99);
        E.noSuchOne("take", x::take, 72000, -1);
        E.is("it lies as it did", x.pallet(0, 2), 5);
        E.is("of nothing", new LoadSpans().take(0), 0);
        E.noSuchOne("take of nothing", new LoadSpans()::take, 1, -1);
    }

    private static void handlings() {
        E.sentence("HANDLINGS to the i-th of these; NONE: no such one.");
        LoadSpans x = most();
        E.is("all come in", x.handlings(0), 5);
        E.is("all come in", x.handlings(71999), 5);
        x.take(0);
        E.is("none", x.handlings(0), 0);
        E.is("BINS need none", x.handlings(99), 0);
        E.noSuchOne("handlings", x::handlings, 72000, -1);
        E.is("of nothing", new LoadSpans().handlings(0), 0);
        E.noSuchOne("handlings of nothing", new LoadSpans()::handlings, 1, -1);
        E.noSuchOne("handlings of none", E.cargo("pallet a 1 1;", 1)::handlings, 0, -1);
    }

    private static void mend() {
        E.sentence("MEND: how many MOVES (0: it is GOOD); NONE: it can't be. Nothing is done.");
        E.is("GOOD", new LoadSpans().mend(), 0);
        E.is("GOOD", allOn().mend(), 0);
        E.is("no LOADING is GOOD", E.cargo("pallet a 1 1;", 1).mend(), -1);
        LoadSpans x = Texts.loader(SIX, FIVE);
        for (int k = 0; k < 5; k++) {
            E.is("as many as are OUT", x.mend(), 5 - k);
            E.is("nothing is done", x.count(9), 5 - k);
            x.put(k, k);
        }
        E.is("nothing is done", x.undo(), 4);
        E.is("BINS are not as told", Texts.loader("bin 50 9;", "bulk 1;").mend(), -1);
        // all SPOTS taken: no PALLET may go OUT
        LoadSpans full = Texts.loader("hold a 99 front;spot 50 1;spot 50 9;", "pallet a 2 1;pallet b 1 1;");
        full.put(0, 0);
        full.put(1, 1);
        E.is("no SPOT is empty", full.mend(), -1);
    }

    private static void move() {
        E.sentence("MOVE i (from 0) of the latest mend() that was not NONE: 10 times the PALLET and the SPOT; NONE: none such.");
        LoadSpans x = Texts.loader(SIX, FIVE);
        E.noSuchOne("move ahead of any", x::move, 0, -1);
        x.mend();
        for (int i = 0; i < 5; i++) {
            E.is("move(" + i + ")", x.move(i), 11 * i);
        }
        E.noSuchOne("move", x::move, 5, -1);
        x.put(0, 5);
        x.mend();
        E.is("the latest: move(0)", x.move(0), 10);
        E.is("the latest: move(3)", x.move(3), 43);
        E.noSuchOne("move of four", x::move, 4, -1);
        x.drop(0);
        Texts.plane(x, "");
        E.is("NONE", x.mend(), -1);
        E.is("the latest that was not NONE", x.move(0), 10);
        E.is("the latest that was not NONE", x.move(3), 43);
        E.is("mended(): NONE", x.mended(), -1);
        E.is("the latest mend() still", x.move(3), 43);
        Texts.cargo(x, "");
        E.is("GOOD", x.mend(), 0);
        E.noSuchOne("move of none", x::move, 0, -1);
    }

    private static void mended() {
        E.sentence("MENDED: all its MOVES are done: how many; NONE: as for mend().");
        LoadSpans x = Texts.loader(SIX, FIVE);
        E.is("all are OUT", x.mended(), 5);
        for (int k = 0; k < 5; k++) {
            E.is("pallet(" + k + ", 2)", x.pallet(k, 2), k);
        }
        E.is("GOOD now", x.mended(), 0);
        E.is("undone at once", x.undo(), 0);
        E.is("all are OUT", x.count(9), 5);
        E.is("no LOADING is GOOD", E.cargo("pallet a 1 1;", 1).mended(), -1);
        E.is("BINS are not as told", Texts.loader("bin 50 9;", "bulk 1;").mended(), -1);
    }

    private static void spare() {
        E.sentence("How much heavier a PALLET may be so that it is still GOOD (0 to 99): the most, all below it being so, too;"
            + " NONE: it is not GOOD, no such one.");
        LoadSpans x = allOn();
        E.is("up to the SPOT's LIMIT", x.spare(4), 98);
        x.weigh(4, 99);
        E.is("at the SPOT's LIMIT", x.spare(4), 0);
        E.is("another one", x.spare(0), 98);
        E.noSuchOne("spare", x::spare, 5, -1);
        x.off(4);
        E.is("not GOOD", x.spare(0), -1);
        E.is("of one that is OUT", x.spare(4), -1);
        E.noSuchOne("spare of none", new LoadSpans()::spare, 0, -1);
        for (int limit : new int[] {1, 2, 3, 50, 98, 99}) {
            LoadSpans y = Texts.loader("span 1 99;hold a 999 front;spot 50 " + limit + ";", "pallet a 1 1;");
            y.put(0, 0);
            E.is("LIMIT " + limit, y.spare(0), limit - 1);
        }
        LoadSpans hold = Texts.loader("span 1 99;hold a 12 front;spot 50 99;spot 50 99;", "pallet a 5 1;pallet b 5 1;");
        hold.put(0, 0);
        hold.put(1, 1);
        E.is("the HOLD's LIMIT", hold.spare(1), 2);
        // 5000 + 60 by w is not above 55 by (100 + w) up to 100
        LoadSpans span = Texts.loader("span 45 55;hold a 999 front;spot 60 99;spot 80 99;", "pallet a 90 1;");
        span.put(0, 0);
        E.is("the SPOT's LIMIT, ahead of the span", span.spare(0), 9);
        // 5000 + 80 by w up to 20
        span.weigh(0, 15);
        span.put(0, 1);
        E.is("the span, ahead of the SPOT's LIMIT", span.spare(0), 5);
        span.weigh(0, 20);
        E.is("just IN SPAN", span.spare(0), 0);
        span.weigh(0, 21);
        E.is("not IN SPAN", span.spare(0), -1);
    }

    private static void swaps() {
        E.sentence("In which of all LOADINGS that differ from how it lies by two PALLETS changing places alone (both on SPOTS)"
            + " it is GOOD: how many such pairs.");
        LoadSpans x = allOn();
        E.is("all pairs of five", x.swaps(), 10);
        x.off(0);
        E.is("one is OUT", x.swaps(), 0);
        x.drop(0);
        E.is("all pairs of four", x.swaps(), 6);
        x.weigh(0, 99);
        E.is("all pairs of four still", x.swaps(), 6);
        x.drop(3);
        x.drop(2);
        E.is("one pair", x.swaps(), 1);
        x.drop(1);
        E.is("one alone", x.swaps(), 0);
        x.drop(0);
        E.is("none", x.swaps(), 0);
        LoadSpans y = Texts.loader("hold a 9 front;spot 50 1;spot 50 2;spot 50 1;", "pallet a 2 1;pallet b 1 1;pallet c 1 1;");
        y.put(0, 0);
        y.put(1, 1);
        y.put(2, 2);
        E.is("not GOOD now, but with a and b changed", y.swaps(), 1);
        E.is("it lies as it did", y.where(), 0);
    }

    private static void come() {
        E.sentence("A PALLET without a NAME comes last, OUT (WEIGHT 1 to 99, STOP 1 to 9): its number; NONE: not as told,"
            + " there are 5.");
        LoadSpans x = new LoadSpans();
        int[][] wrong = {{0, 1}, {100, 1}, {1, 0}, {1, 10}, {-1, 1}, {1, -1}, {0, 0}, {100, 10}, {Integer.MIN_VALUE, 1},
            {Integer.MAX_VALUE, 1}, {1, Integer.MIN_VALUE}, {1, Integer.MAX_VALUE}, {257, 1}, {1, 257}};
        for (int[] two : wrong) {
            E.is("come(" + two[0] + ", " + two[1] + ")", x.come(two[0], two[1]), -1);
        }
        E.is("none came", x.count(7), 0);
        int[][] right = {{1, 1}, {99, 1}, {1, 9}, {99, 9}, {50, 5}};
        for (int k = 0; k < 5; k++) {
            E.is("come(" + right[k][0] + ", " + right[k][1] + ")", x.come(right[k][0], right[k][1]), k);
            E.is("WEIGHT", x.pallet(k, 0), right[k][0]);
            E.is("STOP", x.pallet(k, 1), right[k][1]);
            E.is("OUT", x.pallet(k, 2), -1);
            E.is("without a NAME", x.pallet(k, 3), 0);
        }
        E.is("there are 5", x.come(1, 1), -1);
        E.is("and 5 remain", x.count(7), 5);
        x.drop(0);
        E.is("there were 4", x.come(7, 7), 4);
        // where a PALLET lay that went, none lies that comes
        LoadSpans y = allOn();
        y.drop(4);
        y.come(1, 1);
        E.is("OUT", y.pallet(4, 2), -1);
        E.is("SPOT 4 is empty", y.spot(4, 3), -1);
    }

    private static void drop() {
        E.sentence("A PALLET goes (those behind it are one less): how many are left; NONE: no such one.");
        LoadSpans x = allOn();
        E.is("the last", x.drop(4), 4);
        E.is("its SPOT is empty", x.spot(4, 3), -1);
        E.is("drop(4) again", x.drop(4), -1);
        E.is("the first", x.drop(0), 3);
        E.is("its SPOT is empty", x.spot(0, 3), -1);
        for (int k = 0; k < 3; k++) {
            E.is("one less lies on " + (k + 1), x.pallet(k, 2), k + 1);
        }
        E.is("NAME", x.pallet(0, 3), 2);
        E.is("the middle one", x.drop(1), 2);
        E.is("pallet(1, 2)", x.pallet(1, 2), 3);
        E.noSuchOne("drop", x::drop, 2, -1);
        E.is("two", x.drop(0), 1);
        E.is("one", x.drop(0), 0);
        E.is("none", x.drop(0), -1);
        E.noSuchOne("drop of none", x::drop, 0, -1);
    }

    private static void again() {
        E.sentence("A PALLET that is there comes again: it is the last one then, its SPOT, NAME, all else as it was: its number;"
            + " NONE: no such one.");
        LoadSpans x = Texts.loader(SIX, "pallet a 1 5;pallet bb 2 6;pallet ccc 3 7;");
        x.put(0, 3);
        x.put(2, 5);
        E.is("the first", x.again(0), 2);
        int[][] due = {{2, 6, -1, 2}, {3, 7, 5, 3}, {1, 5, 3, 1}};
        for (int k = 0; k < 3; k++) {
            for (int what = 0; what < 4; what++) {
                E.is("pallet(" + k + ", " + what + ")", x.pallet(k, what), due[k][what]);
            }
        }
        E.is("the last", x.again(2), 2);
        E.is("it is as it was", x.pallet(2, 3), 1);
        E.is("the middle one", x.again(1), 2);
        E.is("it is the last", x.pallet(2, 3), 3);
        E.noSuchOne("again", x::again, 3, -1);
        E.noSuchOne("again of none", new LoadSpans()::again, 0, -1);
        LoadSpans five = allOn();
        E.is("of five the first", five.again(0), 4);
        E.is("on SPOT 0", five.spot(0, 3), 4);
        E.is("there are five", five.count(7), 5);
        LoadSpans one = E.cargo("pallet a 1 1;", 1);
        E.is("one alone", one.again(0), 0);
        E.is("counts", one.undo(), 0);
    }

    private static void weigh() {
        E.sentence("A PALLET has another WEIGHT (1 to 99): 0; 1: it has that; NONE: no such ones.");
        LoadSpans x = most();
        for (int k = 0; k < 5; k++) {
            E.is("it has that", x.weigh(k, 1), 1);
            E.is("the most", x.weigh(k, 99), 0);
            E.is("it has that", x.weigh(k, 99), 1);
            E.is("the least", x.weigh(k, 1), 0);
            int pallet = k;
            // 0 is none either
            E.is("weigh(" + k + ", 0)", x.weigh(k, 0), -1);
            E.noSuchOne("weigh of " + k, w -> x.weigh(pallet, w), 100, -1);
            E.is("it weighs as it did", x.pallet(k, 0), 1);
        }
        E.noSuchOnes("weigh", x::weigh, 5, 100, -1);
        E.noSuchOnes("weigh of none", new LoadSpans()::weigh, 0, 100, -1);
    }

    private static void undo() {
        E.sentence("is undone: how many more can be (8 at most are kept); NONE: none is.");
        LoadSpans x = E.cargo("pallet a 1 1;", 1);
        E.is("none", x.undo(), -1);
        for (int many = 1; many <= 20; many++) {
            for (int w = 2; w <= many + 1; w++) {
                x.weigh(0, w);
            }
            int kept = Math.min(many, 8);
            for (int left = kept - 1; left >= 0; left--) {
                E.is("of " + many, x.undo(), left);
                E.is("WEIGHT, of " + many, x.pallet(0, 0), many - kept + left + 1);
            }
            E.is("of " + many + " no more", x.undo(), -1);
            E.is("WEIGHT then", x.pallet(0, 0), many - kept + 1);
            Texts.cargo(x, "pallet a 1 1;");
        }
        for (int w = 2; w <= 9; w++) {
            x.weigh(0, w);
        }
        x.undo();
        x.undo();
        x.undo();
        x.weigh(0, 50);
        E.is("what was undone does not count", x.undo(), 5);
        E.is("WEIGHT", x.pallet(0, 0), 6);
        E.sentence("They are as kept in place k (the tape, FAULT, MOVES told stay; nothing can be undone): true; false: no such"
            + " one, or nothing is kept there.");
        x.image(0);
        E.is("image() leaves what can be undone", x.undo(), 4);
        x.restore(0);
        E.is("restore() does not", x.undo(), -1);
        x.weigh(0, 7);
        E.is("a refused restore() does", x.restore(1), false);
        E.is("undo()", x.undo(), 0);
    }

    private static void undone(String what, LoadSpans x, long answer, long want) {
        E.is(what, answer, want);
        E.is(what + " can be undone", x.undo(), 0);
        E.is(what + " alone", x.undo(), -1);
    }

    private static void notUndone(String what, LoadSpans x, long answer, long want) {
        E.is(what, answer, want);
        E.is(what + " can't be undone", x.undo(), -1);
    }

    private static LoadSpans fresh() {
        LoadSpans x = Texts.loader(SIX + "bin 50 9;tank t 50 9;", "pallet a 1 1;pallet b 2 2;");
        x.put(1, 3);
        x.image(1);
        x.restore(1);
        return x;
    }

    private static void undoOfEach() {
        E.sentence("The latest put(), pour(), weigh() that was 0, off(), take(), come(), drop(), again() that was not NONE,"
            + " mended() above 0 is undone:");
        LoadSpans x = fresh();
        undone("put() to a SPOT", x, x.put(0, 5), 0);
        E.is("OUT again", x.pallet(0, 2), -1);
        undone("put() to another SPOT", x, x.put(1, 5), 0);
        E.is("on 3 again", x.pallet(1, 2), 3);
        notUndone("put() where another one lies", x, x.put(0, 3), 1);
        notUndone("put() where it lies", x, x.put(1, 3), 2);
        notUndone("put() of none", x, x.put(2, 0), -1);
        undone("pour()", x, x.pour(0, 9), 0);
        E.is("0 again", x.in(0, 0), 0);
        notUndone("pour() as it is", x, x.pour(0, 0), 1);
        notUndone("pour() of too much", x, x.pour(0, 10), -1);
        undone("weigh()", x, x.weigh(1, 99), 0);
        E.is("2 again", x.pallet(1, 0), 2);
        notUndone("weigh() as it is", x, x.weigh(1, 2), 1);
        notUndone("weigh() of 100", x, x.weigh(1, 100), -1);
        undone("off()", x, x.off(1), 3);
        E.is("on 3 again", x.spot(3, 3), 1);
        notUndone("off() of one that is OUT", x, x.off(0), -1);
        undone("take()", x, x.take(0), 2);
        E.is("as it lay", x.pallet(0, 2) * 10 + x.pallet(1, 2), -7);
        notUndone("take() of none", x, x.take(30), -1);
        undone("come()", x, x.come(1, 1), 2);
        E.is("two again", x.count(7), 2);
        notUndone("come() not as told", x, x.come(0, 1), -1);
        undone("drop()", x, x.drop(0), 1);
        E.is("b is 1 again", x.pallet(1, 1), 2);
        undone("drop() of the last", x, x.drop(1), 1);
        E.is("on 3 again", x.pallet(1, 2), 3);
        notUndone("drop() of none", x, x.drop(2), -1);
        undone("again()", x, x.again(0), 1);
        E.is("b is 1 again", x.pallet(1, 1), 2);
        undone("again() of the last", x, x.again(1), 1);
        notUndone("again() of none", x, x.again(2), -1);
        undone("mended()", x, x.mended(), 1);
        E.is("OUT again", x.pallet(0, 2), -1);
        notUndone("mend()", x, x.mend(), 1);
        x.take(0);
        x.image(0);
        x.restore(0);
        notUndone("mended() of 0", x, x.mended(), 0);
        undone("take() where nothing changes", x, x.take(0), 0);
        x.weigh(1, 99);
        x.pour(0, 1);
        E.is("mended(): NONE", x.mended(), -1);
        E.is("is not undone, but pour()", x.undo(), 1);
        notUndoneByLooking();
        LoadSpans kept = fresh();
        kept.off(1);
        E.is("plane() with a FAULT", Texts.plane(kept, "!"), -1000);
        E.is("cargo() with a FAULT", Texts.cargo(kept, "!"), -1000);
        E.is("leaves what can be undone", kept.undo(), 0);
        E.is("on 3 again", kept.pallet(1, 2), 3);
    }

    private static void notUndoneByLooking() {
        LoadSpans x = fresh();
        x.loadings();
        x.loading(0, 0);
        x.poured(0, 0);
        x.handlings(0);
        x.mend();
        x.move(0);
        x.spare(0);
        x.swaps();
        x.why();
        x.where();
        x.image(0);
        x.feed(0, 0, 0, 0, 0);
        x.named();
        notUndone("looking", x, x.count(10), 0);
    }

    private static void images() {
        E.sentence("PLANE, CARGO and how all lies are kept in place k (0, 1): true; false: no such one.");
        LoadSpans x = most();
        for (int place : NO_PLACE) {
            E.is("image(" + place + ")", x.image(place), false);
            E.is("restore(" + place + ")", x.restore(place), false);
        }
        E.is("restore(0)", x.restore(0), false);
        x.take(71999);
        E.is("image(0)", x.image(0), true);
        E.is("restore(1)", x.restore(1), false);
        x.take(0);
        E.is("image(1)", x.image(1), true);
        E.is("the same place again", x.image(1), true);
        Texts.plane(x, "span 0 1;");
        Texts.cargo(x, "pallet z 7 7;");
        E.is("restore(0)", x.restore(0), true);
        E.is("PALLET 0 in place 0", x.pallet(0, 2), 5);
        E.is("BIN 0 in place 0", x.in(0, 0), 99);
        E.is("restore(1)", x.restore(1), true);
        E.is("PALLET 0 in place 1", x.pallet(0, 2), 0);
        E.is("BIN 0 in place 1", x.in(0, 0), 0);
        int[] most = {3, 6, 3, 2, 3, 12, 4, 5, 99, 0, 0};
        for (int what = 0; what <= 10; what++) {
            E.is("count(" + what + ")", x.count(what), most[what]);
        }
        for (int i = 0; i <= 12; i++) {
            E.is("stage(" + i + ", 2)", x.stage(i, 2), 49 * (999 + 297 + 99 - Math.min(i, 8) + 5 * (i < 9 ? 1 : 0)));
        }
        E.is("named()", Texts.named(x, "abcdefgh"), 4);
        E.is("loadings()", x.loadings(), 72000);
        allInTheImage();
        Texts.plane(x, "");
        Texts.cargo(x, "");
        E.is("an image of nothing", x.image(0), true);
        x.restore(1);
        E.is("count(1)", x.count(1), 6);
        E.is("the latest in place 0", x.restore(0), true);
        E.is("count(1)", x.count(1), 0);
        E.is("count(7)", x.count(7), 0);
        E.is("loadings()", x.loadings(), 1);
    }

    /** Each row of PLANE and CARGO counts in an answer: all of them are as before, whatever was there meanwhile. */
    private static void allInTheImage() {
        LoadSpans x = Texts.loader("empty 200 40;span 30 70;hold a 99 front;spot 30 20;spot 40 30;joint 45;hold b 88 back;"
            + "spot 50 40;spot 60 50;joint 70;spot 70 60;joint 80;bin 10 5;bin 90 6;tank s 20 9;tank t 80 8;stop;burn s 3;"
            + "burn t 4;stop;burn s 5;", "pallet a 20 1;pallet bb 25 2;pallet ccc 30 1;bulk 7;");
        x.put(0, 0);
        x.put(1, 3);
        x.put(2, 4);
        x.pour(0, 3);
        x.pour(1, 4);
        x.come(9, 9);
        List<String> before = Twins.answers(x);
        x.image(1);
        String[] planes = {"", MOST, "hold z 9 back;spot 1 1;spot 2 2;joint 3;hold y 9 front;spot 3 3;spot 4 4;joint 4;bin 1 1;"
            + "tank q 1 1;burn q 1;stop;stop;stop;"};
        for (String plane : planes) {
            Texts.plane(x, plane);
            Texts.cargo(x, FIVE + "bulk 1;");
            x.put(4, 1);
            x.loadings();
            E.is("restore(1) behind " + plane, x.restore(1), true);
            List<String> behind = Twins.answers(x);
            for (int i = 0; i < before.size(); i++) {
                if (!before.get(i).equals(behind.get(i))) {
                    E.is("behind " + plane + " " + before.get(i) + " is " + behind.get(i), false, true);
                }
            }
        }
    }

    private static void restores() {
        E.sentence("(the tape, FAULT, MOVES told stay; nothing can be undone)");
        LoadSpans x = Texts.loader(SIX, FIVE);
        x.image(1);
        x.put(0, 5);
        x.mend();
        Texts.cargo(x, "bulk 199;");
        Texts.tell(x, "bb");
        E.is("restore(1)", x.restore(1), true);
        E.is("FAULT", x.fault(), 2);
        E.is("MOVES told: the first", x.move(0), 10);
        E.is("MOVES told: the last", x.move(3), 43);
        E.is("undo()", x.undo(), -1);
        E.is("count(9)", x.count(9), 5);
        E.is("the tape", x.count(10), 2);
        E.is("the tape's bytes", x.named(), 1);
        x.put(0, 0);
        x.weigh(1, 9);
        x.drop(2);
        E.is("restore(1) again", x.restore(1), true);
        E.is("the image is as it was kept", x.count(7), 5);
        E.is("the image is as it was kept", x.pallet(1, 0), 1);
        E.is("the image is as it was kept", x.pallet(0, 2), -1);
        E.is("a FAULT leaves the images", Texts.plane(x, "!"), -1000);
        E.is("restore(1)", x.restore(1), true);
        E.is("place 0 is empty still", x.restore(0), false);
    }
}
