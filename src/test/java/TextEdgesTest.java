/** The edges of the texts ("Terms", 1): a test for each sentence of the document that names one. */
public final class TextEdgesTest {
    private static final Edges E = new Edges("TextEdgesTest");
    private static final String HOLD = "hold h 999 front;";
    private static final String SPOT = "spot 1 1;";
    private static final String TWO_SPOTS = HOLD + SPOT + SPOT;
    private static final String SIX_SPOTS = HOLD + SPOT.repeat(6);
    private static final String TWO_BINS = "bin 1 1;bin 2 2;";
    private static final String THREE_TANKS = "tank a 1 99;tank b 2 2;tank c 3 3;";
    private static final String THREE_HOLDS = "hold a 1 front;hold b 2 back;hold c 3 front;";
    private static final String TANK = "tank t 1 99;";
    private static final String BURN = "burn t 1;";
    private static final String FIVE = "pallet a 1 1;pallet b 1 1;pallet c 1 1;pallet d 1 1;pallet e 1 1;";

    public static void main(String[] args) {
        lengthOfPlane();
        empty();
        span();
        holdAndDoor();
        spot();
        joint();
        binAndTank();
        burn();
        arms();
        onceEach();
        howMany();
        howManyStages();
        numberedAsTold();
        names();
        words();
        lengthOfCargo();
        pallet();
        bulk();
        fivePallets();
        numbers();
        blanks();
        wordsGoOn();
        firstFault();
        oddTokens();
        theEnd();
        wrongNumbers();
        wrongNames();
        oneTooMany();
        noFloor();
        E.close();
    }

    private static String blanks(int many) {
        return " ".repeat(many);
    }

    private static void lengthOfPlane() {
        E.sentence("A PLANE is a text of at most 500 bytes: { LINE ; }.");
        E.is("STAGES of the empty text", E.plane("", 0).count(5), 0);
        E.is("STAGES of one LINE", E.plane("stop;", 0).count(5), 1);
        E.is("STAGES of two LINES", E.plane("stop;stop;", 0).count(5), 2);
        E.plane(blanks(1), 0);
        E.plane(blanks(499), 0);
        E.plane(blanks(500), 0);
        String longest = HOLD + blanks(500 - 17 - 9) + "spot 7 9;";
        E.is("its bytes", longest.length(), 500);
        E.is("the SPOT that ends with the 500th byte", E.plane(longest, 1).spot(0, 1), 7);
        E.sentence("the text's most, if there are more, and nothing is read");
        E.planeFault(longest + " ", 1, 500);
        E.planeFault(blanks(501), 1, 500);
        E.planeFault("!" + blanks(500), 1, 500);
        E.planeFault(SPOT + blanks(492), 1, 500);
        E.planeFault(blanks(540), 1, 500);
        E.planeFault("!" + blanks(499), 1, 0);
        E.cargoFault("!" + blanks(300), 1, 300);
        E.cargoFault("!" + blanks(299), 1, 0);
    }

    private static void empty() {
        E.sentence("'empty' N A (its WEIGHT, 1 to 999; its ARM; 100 at 50 without)");
        E.planeNumber("empty ", 1, 999, " 5;");
        E.planeNumber("empty 5 ", 0, 99, ";");
        for (int[] told : new int[][] {{1, 0}, {1, 99}, {999, 0}, {999, 99}, {100, 50}}) {
            LoadSpans x = E.plane("empty " + told[0] + " " + told[1] + ";", 0);
            E.is("WEIGHT of " + told[0], x.stage(0, 0), told[0]);
            E.is("MOMENT of " + told[0] + " at " + told[1], x.stage(0, 1), told[0] * told[1]);
        }
        LoadSpans x = E.plane("stop;", 0);
        E.is("WEIGHT without", x.stage(0, 0), 100);
        E.is("MOMENT without", x.stage(0, 1), 5000);
        Texts.plane(x, "empty 7 7;");
        Texts.plane(x, "");
        E.is("WEIGHT without, behind another PLANE", x.stage(0, 0), 100);
        E.is("MOMENT without, behind another PLANE", x.stage(0, 1), 5000);
    }

    private static void span() {
        E.sentence("'span' A A (the lesser, the greater ARM, not alike; 40 and 60 without)");
        E.plane("span 0 99;", 0);
        E.plane("span 98 99;", 0);
        E.planeFault("span 100 99;", 2, 5);
        E.planeNumber("span 0 ", 1, 99, ";");
        E.planeNumber("span 49 ", 50, 99, ";");
        E.planeNumber("span 98 ", 99, 99, ";");
        E.planeFault("span 50 49;", 2, 8);
        E.planeFault("span 99 99;", 2, 8);
        E.planeFault("span 99 0;", 2, 8);
        LoadSpans x = E.plane("span 0 1;", 0);
        E.is("MOMENT less WEIGHT by 0", x.stage(0, 2), 5000);
        E.is("WEIGHT by 1 less MOMENT", x.stage(0, 3), -4900);
        x = E.plane("span 98 99;", 0);
        E.is("MOMENT less WEIGHT by 98", x.stage(0, 2), -4800);
        E.is("WEIGHT by 99 less MOMENT", x.stage(0, 3), 4900);
        Texts.plane(x, "");
        E.is("40 without, behind another PLANE", x.stage(0, 2), 1000);
        E.is("60 without, behind another PLANE", x.stage(0, 3), 1000);
    }

    private static void holdAndDoor() {
        E.sentence("'hold' NAME N DOOR (its LIMIT, 1 to 999; DOOR: 'front' or 'back')");
        E.planeNumber("hold a ", 1, 999, " front;");
        E.planeNumber("hold a ", 1, 999, " back;");
        for (String door : new String[] {"left", "fron", "fronts", "bac", "backs", "hold", "1", ";", "!"}) {
            E.planeFault("hold a 1 " + door + ";", 1, 9);
        }
        // 1 is the LIMIT: 1 is not above it, 2 is
        LoadSpans x = Texts.loader("hold a 1 front;spot 50 99;", "pallet a 1 1;");
        x.put(0, 0);
        E.is("at LIMIT 1", x.why(), 0);
        x.weigh(0, 2);
        E.is("above LIMIT 1", x.why(), 4);
        LoadSpans y = Texts.loader("hold a 999 back;" + "spot 50 99;".repeat(5), FIVE.replace(" 1 1;", " 99 1;"));
        for (int k = 0; k < 5; k++) {
            y.put(k, k);
        }
        E.is("5 PALLETS of 99 are not above LIMIT 999", y.why(), 0);
    }

    private static void spot() {
        E.sentence("'spot' A N (in the latest HOLD; its ARM, its LIMIT, 1 to 99)");
        E.planeNumber(HOLD + "spot ", 0, 99, " 1;");
        E.planeNumber(HOLD + "spot 1 ", 1, 99, ";");
        LoadSpans x = E.plane("hold a 9 back;spot 0 1;hold b 9 front;hold c 9 front;spot 99 99;", 2);
        E.is("HOLD of SPOT 0", x.spot(0, 0), 0);
        E.is("ARM of SPOT 0", x.spot(0, 1), 0);
        E.is("LIMIT of SPOT 0", x.spot(0, 2), 1);
        E.is("HOLD of SPOT 1", x.spot(1, 0), 2);
        E.is("ARM of SPOT 1", x.spot(1, 1), 99);
        E.is("LIMIT of SPOT 1", x.spot(1, 2), 99);
    }

    private static void joint() {
        E.sentence("'joint' N (1 to 999: of the latest two SPOTS, of the latest HOLD both, the WEIGHTS together)");
        E.planeNumber(TWO_SPOTS + "joint ", 1, 999, ";");
        for (int limit : new int[] {1, 2, 197, 198, 999}) {
            LoadSpans x = Texts.loader("hold a 999 front;spot 50 99;spot 50 99;spot 50 99;joint " + limit + ";",
                "pallet a 99 1;pallet b 99 1;");
            x.put(0, 0);
            x.put(1, 1);
            x.weigh(1, 1);
            E.is("0 and 1 are not the latest two SPOTS of joint " + limit, x.why(), 0);
            x.put(0, 2);
            x.weigh(1, 99);
            E.is("198 on joint " + limit, x.why(), limit < 198 ? 3 : 0);
            x.drop(1);
            x.weigh(0, 1);
            E.is("1 on joint " + limit, x.why(), 0);
            x.weigh(0, 2);
            E.is("2 on joint " + limit, x.why(), limit < 2 ? 3 : 0);
        }
    }

    private static void binAndTank() {
        E.sentence("'bin' A N (its ARM, its LIMIT, 1 to 99)");
        E.planeNumber("bin ", 0, 99, " 1;");
        E.planeNumber("bin 1 ", 1, 99, ";");
        LoadSpans x = E.plane("bin 0 1;bin 99 99;", 0);
        E.is("1 in a BIN of 1", x.pour(0, 1), 0);
        E.is("2 in a BIN of 1", x.pour(0, 2), -1);
        E.is("99 in a BIN of 99", x.pour(1, 99), 0);
        E.is("100 in a BIN of 99", x.pour(1, 100), -1);
        E.is("MOMENT of 1 at 0, 99 at 99", x.stage(0, 1), 5000 + 99 * 99);
        E.sentence("'tank' NAME A N (its ARM, what is in it, 1 to 99)");
        E.planeNumber("tank a ", 0, 99, " 1;");
        E.planeNumber("tank a 1 ", 1, 99, ";");
        x = E.plane("tank a 0 1;tank b 99 99;", 0);
        E.is("in TANK 0", x.in(1, 0), 1);
        E.is("in TANK 1", x.in(1, 1), 99);
        E.is("MOMENT of 1 at 0, 99 at 99", x.stage(0, 1), 5000 + 99 * 99);
        E.is("WEIGHT", x.stage(0, 0), 200);
    }

    private static void burn() {
        E.sentence("'burn' NAME N (a TANK: that much is burnt, 1 to what is left in it)");
        E.planeNumber("tank t 1 1;burn t ", 1, 1, ";");
        E.planeNumber("tank t 1 99;burn t ", 1, 99, ";");
        E.planeNumber("tank t 1 9;burn t 4;burn t ", 1, 5, ";");
        E.planeNumber("tank t 1 9;tank u 1 5;burn u 2;burn t ", 1, 9, ";");
        E.planeFault("tank t 1 9;burn t 9;burn t 1;", 2, 27);
        E.planeFault("tank t 1 9;burn t 9;burn t 0;", 2, 27);
        LoadSpans x = E.plane("tank t 99 9;burn t 9;", 0);
        E.is("WEIGHT behind all is burnt", x.stage(1, 0), 100);
        E.is("MOMENT behind all is burnt", x.stage(1, 1), 5000);
    }

    private static void arms() {
        E.sentence("ARMS 0 to 99.");
        E.planeNumber("empty 9 ", 0, 99, ";");
        E.plane("span 0 99;", 0);
        E.planeFault("span 100 99;", 2, 5);
        E.planeNumber("span 0 ", 1, 99, ";");
        E.planeNumber(HOLD + "spot ", 0, 99, " 1;");
        E.planeNumber("bin ", 0, 99, " 1;");
        E.planeNumber("tank a ", 0, 99, " 1;");
    }

    private static void onceEach() {
        E.sentence("empty, span: once each.");
        E.plane("empty 1 1;span 1 2;", 0);
        E.plane("span 1 2;empty 1 1;", 0);
        E.planeFault("empty 1 1;empty 1 1;", 3, 10);
        E.planeFault("span 1 2;span 1 2;", 3, 9);
        E.planeFault("span 1 2;empty 1 1;stop;span 1 2;", 3, 24);
        E.planeFault("empty 1 1;span 1 2;stop;empty 1 1;", 3, 24);
        LoadSpans x = E.plane("empty 1 1;", 0);
        E.is("once in each text", Texts.plane(x, "empty 2 2;"), 0);
        E.is("once in each text", Texts.plane(x, "empty 1 1;empty"), -1010);
        E.is("behind a FAULT anew", Texts.plane(x, "empty 3 3;"), 0);
        E.is("span once in each text", Texts.plane(x, "span 1 2;"), 0);
        E.is("span once in each text", Texts.plane(x, "span 1 3;"), 0);
    }

    private static void howMany() {
        E.sentence("3 HOLDS, 6 SPOTS, 2 BINS, 3 TANKS, 12 STAGES (each burn, stop is one), 4 stops at most");
        LoadSpans none = E.plane("", 0);
        LoadSpans all = E.plane("hold a 9 front;spot 1 1;spot 2 2;hold b 9 back;spot 3 3;hold c 9 front;spot 4 4;spot 5 5;"
            + "spot 6 6;" + TWO_BINS + "tank d 1 9;tank e 2 9;tank f 3 9;" + "burn d 1;".repeat(8) + "stop;".repeat(4), 6);
        int[] most = {3, 6, 0, 2, 3, 12, 4};
        for (int what = 0; what < most.length; what++) {
            E.is("none: count(" + what + ")", none.count(what), 0);
            E.is("most: count(" + what + ")", all.count(what), most[what]);
        }
        E.planeFault(THREE_HOLDS + "hold d 1 front;", 4, THREE_HOLDS.length());
        E.planeFault(SIX_SPOTS + SPOT, 4, SIX_SPOTS.length());
        E.planeFault(TWO_BINS + "bin 1 1;", 4, 16);
        E.planeFault(THREE_TANKS + "tank d 1 1;", 4, THREE_TANKS.length());
        E.planeFault("stop;".repeat(5), 4, 20);
        E.is("JOINTS have no most but the SPOTS'", E.plane(HOLD + SPOT + (SPOT + "joint 9;").repeat(5), 6).count(2), 5);
    }

    private static void howManyStages() {
        E.sentence("12 STAGES (each burn, stop is one), 4 stops at most");
        E.is("12 burns", E.plane(TANK + BURN.repeat(12), 0).count(5), 12);
        E.planeFault(TANK + BURN.repeat(13), 4, 12 + 12 * 9);
        E.planeFault(TANK + BURN.repeat(12) + "stop;", 4, 12 + 12 * 9);
        E.is("11 burns and a stop", E.plane(TANK + BURN.repeat(11) + "stop;", 0).count(6), 1);
        E.planeFault(TANK + BURN.repeat(11) + "stop;stop;", 4, 12 + 11 * 9 + 5);
        E.is("8 burns and 4 stops", E.plane(TANK + "stop;".repeat(4) + BURN.repeat(8), 0).count(5), 12);
        E.planeFault(TANK + "stop;".repeat(4) + BURN.repeat(9), 4, 12 + 20 + 8 * 9);
        E.is("4 stops", E.plane("stop;".repeat(4), 0).count(6), 4);
        E.planeFault("stop;".repeat(4) + TANK + BURN + "stop;", 4, 20 + 12 + 9);
    }

    private static void numberedAsTold() {
        E.sentence("all numbered from 0 as told (stops from 1)");
        LoadSpans x = Texts.loader("hold a 9 front;spot 5 1;hold b 99 back;spot 6 2;spot 7 3;joint 9;bin 3 4;bin 4 5;"
            + "tank t 1 8;tank u 2 9;stop;burn u 3;stop;", "pallet p 9 1;pallet q 9 2;");
        for (int s = 0; s < 3; s++) {
            E.is("ARM of SPOT " + s, x.spot(s, 1), 5 + s);
        }
        E.is("the first BIN takes 4", x.pour(0, 5), -1);
        E.is("the second BIN takes 5", x.pour(1, 5), 0);
        E.is("the first TANK", x.in(1, 0), 8);
        E.is("the second TANK", x.in(1, 1), 9);
        x.put(0, 1);
        x.put(1, 2);
        E.is("in the first HOLD", x.in(2, 0), 0);
        E.is("in the second HOLD", x.in(2, 1), 18);
        // 100 + 17 + 5 + 18, less 9 at stop 1, 3 burnt, less 9 at stop 2
        int[] weights = {140, 131, 128, 119};
        for (int i = 0; i < 4; i++) {
            E.is("WEIGHT at STAGE " + i, x.stage(i, 0), weights[i]);
        }
    }

    private static void names() {
        E.sentence("NAME (of HOLDS and TANKS, no two alike): a word, none of those in quotes here and below.");
        E.plane("hold a 9 front;hold aa 9 front;tank b 1 1;tank ab 1 1;tank ba 1 1;", 0);
        E.planeFault("hold a 9 front;hold a 9 back;", 3, 20);
        E.planeFault("hold a 9 front;hold b 9 front;hold a 9 back;", 3, 35);
        E.planeFault("tank a 1 1;tank a 2 2;", 3, 16);
        E.planeFault("tank a 1 1;tank b 2 2;tank b 2 2;", 3, 27);
        E.planeFault("hold a 9 front;tank a 1 1;", 3, 20);
        E.planeFault("tank a 1 1;hold a 9 front;", 3, 16);
        E.plane("hold abcdefgh 9 front;tank abcdefgi 1 1;hold bbcdefgh 9 back;tank abcdefg 1 1;", 0);
        E.planeFault("hold abcdefgh 9 front;tank abcdefgh 1 1;", 3, 27);
        for (String word : new String[] {"empty", "span", "hold", "front", "back", "spot", "joint", "bin", "tank", "burn",
            "stop", "pallet", "bulk"}) {
            E.planeFault("hold " + word + " 1 front;", 1, 5);
            E.planeFault("tank " + word + " 1 1;", 1, 5);
            E.planeFault(TANK + "burn " + word + " 1;", 1, 17);
            E.cargoFault("pallet " + word + " 1 1;", 1, 7);
            String other = word.length() < 8 ? word + "s" : word.substring(1);
            E.plane("hold " + other + " 1 front;tank x" + word + " 1 1;", 0);
            E.cargo("pallet " + other + " 1 1;pallet " + word.substring(1) + " 1 1;", 2);
        }
        // NAMES of each text are for themselves
        LoadSpans x = Texts.loader("hold a 9 front;tank b 1 1;", "pallet a 1 1;pallet b 1 1;");
        E.is("PALLETS named as HOLD and TANK", x.count(7), 2);
        E.is("the same PLANE again", Texts.plane(x, "hold a 9 front;tank b 1 1;"), 0);
    }

    private static void words() {
        E.sentence("A word: small letters, 1 to 8.");
        for (int size = 1; size <= 8; size++) {
            E.is("NAME of " + size, E.cargo("pallet " + "z".repeat(size) + " 1 1;", 1).pallet(0, 3), size);
            E.plane("hold " + "a".repeat(size) + " 1 front;", 0);
        }
        E.cargoFault("pallet " + "z".repeat(9) + " 1 1;", 1, 7);
        E.planeFault("hold " + "a".repeat(9) + " 1 front;", 1, 5);
        E.planeFault("tank " + "a".repeat(9) + " 1 1;", 1, 5);
        E.cargoFault("pallet  1 1;", 1, 8);
        E.cargo("pallet az 1 1;", 1);
        for (String odd : new String[] {"`", "{", "A", "Z", "@", "_", "-", "\u00e9", "\u0000", "\u00ff", "a1", "1a", "a1b"}) {
            E.cargoFault("pallet " + odd + " 1 1;", 1, 7);
        }
    }

    private static void lengthOfCargo() {
        E.sentence("CARGO is a text of at most 300 bytes: { LINE ; }.");
        E.is("bulk of the empty text", E.cargo("", 0).count(8), 0);
        E.cargo(blanks(299), 0);
        E.cargo(blanks(300), 0);
        String longest = "pallet a 5 5;" + blanks(300 - 13 - 7) + "bulk 7;";
        E.is("its bytes", longest.length(), 300);
        E.is("the bulk that ends with the 300th byte", E.cargo(longest, 1).count(8), 7);
        E.cargoFault(longest + " ", 1, 300);
        E.cargoFault(blanks(301), 1, 300);
        E.cargoFault(blanks(540), 1, 300);
    }

    private static void pallet() {
        E.sentence("'pallet' NAME N S (its WEIGHT, 1 to 99; its STOP, 1 to 9)");
        E.cargoNumber("pallet a ", 1, 99, " 1;");
        E.cargoNumber("pallet a 1 ", 1, 9, ";");
        LoadSpans x = E.cargo("pallet a 1 9;pallet b 99 1;", 2);
        E.is("WEIGHT 1", x.pallet(0, 0), 1);
        E.is("STOP 9", x.pallet(0, 1), 9);
        E.is("WEIGHT 99", x.pallet(1, 0), 99);
        E.is("STOP 1", x.pallet(1, 1), 1);
    }

    private static void bulk() {
        E.sentence("'bulk' N (0 to 198; 0 without; once)");
        E.cargoNumber("bulk ", 0, 198, ";");
        E.is("bulk 0", E.cargo("bulk 0;", 0).count(8), 0);
        E.is("bulk 198", E.cargo("bulk 198;", 0).count(8), 198);
        E.is("without", E.cargo("pallet a 1 1;", 1).count(8), 0);
        LoadSpans x = E.cargo("bulk 5;", 0);
        E.is("CARGO without, behind one with", Texts.cargo(x, ""), 0);
        E.is("bulk without, behind one with", x.count(8), 0);
        E.cargoFault("bulk 1;bulk 1;", 3, 7);
        E.cargoFault("bulk 0;pallet a 1 1;bulk 0;", 3, 20);
        E.is("once in each text", Texts.cargo(x, "bulk 6;"), 0);
    }

    private static void fivePallets() {
        E.sentence("5 PALLETS at most.");
        E.cargo("", 0);
        E.cargo("pallet a 1 1;", 1);
        E.cargo(FIVE, 5);
        E.cargo("bulk 1;" + FIVE, 5);
        E.cargoFault(FIVE + "pallet f 1 1;", 4, FIVE.length());
        E.cargoFault(FIVE + "bulk 1;pallet", 4, FIVE.length() + 7);
    }

    private static void numbers() {
        E.sentence("Numbers: digits, 1 to 3;");
        for (String five : new String[] {"5", "05", "005"}) {
            E.is("bulk " + five, E.cargo("bulk " + five + ";", 0).count(8), 5);
        }
        E.is("bulk 000", E.cargo("bulk 000;", 0).count(8), 0);
        E.is("bulk 109", E.cargo("bulk 109;", 0).count(8), 109);
        E.is("empty 987", E.plane("empty 987 1;", 0).stage(0, 0), 987);
        for (String odd : new String[] {"0005", "1000", "0000", "99999999999", "-1", "+1", "5.", "/", ":", "0x1", "1e1", "a"}) {
            // where the token goes on behind its digits it is none; where it ends there, what is behind can't stand there
            int at = odd.equals("5.") ? 6 : 5;
            E.cargoFault("bulk " + odd + ";", 1, at);
        }
        E.cargoFault("bulk ;", 1, 5);
    }

    private static void blanks() {
        E.sentence("blanks (32) may stand between all (a word, a number goes on as long as letters and digits do)");
        E.plane("  hold   a  9   front  ;   spot  1   1  ;  ", 1);
        E.is("a blank ahead of all", E.cargo(" pallet a 1 1 ; bulk 1 ; ", 1).count(8), 1);
        for (int c : new int[] {0, 1, 9, 10, 13, 31, 33, 127, 128, 160, 255}) {
            String other = String.valueOf((char) c);
            E.planeFault(other + "stop;", 1, 0);
            E.planeFault("stop" + other + ";", 1, 4);
            E.planeFault("stop;" + other, 1, 5);
            E.planeFault("empty" + other + "5 5;", 1, 5);
        }
        E.planeFault("st op;", 1, 0);
        E.planeFault("empty 1 2 3 4;", 1, 10);
    }

    private static void wordsGoOn() {
        E.sentence("(a word, a number goes on as long as letters and digits do)");
        E.planeFault("empty5 5;", 1, 0);
        E.planeFault("empty 5a 5;", 1, 6);
        E.planeFault("empty 5 5stop;", 1, 8);
        E.planeFault("empty 5 5 stop;", 1, 10);
        E.planeFault("stopstop;", 1, 0);
        E.planeFault("stop;stops;", 1, 5);
        E.planeFault("sto;", 1, 0);
        E.cargoFault("bulk5;", 1, 0);
        E.cargoFault("palletz 1 1;", 1, 0);
        E.cargoFault("pallet a1 1;", 1, 7);
        E.cargoFault("pallet a 1 1b;", 1, 11);
        E.plane("stop;stop;tank a 5 5;burn a 5;", 0);
    }

    private static void firstFault() {
        E.sentence("FAULTS, the first along the text, of one TOKEN the least");
        E.planeFault("stop;empty 0 100 !", 2, 11);
        E.planeFault("empty 9 100;empty 0 0;", 2, 8);
        E.planeFault("stop;! empty 0 0;", 1, 5);
        E.planeFault("spot 100 0;", 5, 0);
        E.planeFault(TWO_BINS + "bin 100 0;", 4, 16);
        E.planeFault("hold a 0 left", 2, 7);
        E.planeFault("hold a 9 front;hold a 0 left;", 3, 20);
        E.planeFault("burn a 0;", 3, 5);
        E.planeFault("empty 1 1;empty 0 0;", 3, 10);
        E.planeFault("tank t 1 1;burn t 2 !", 2, 18);
        // of one TOKEN: no word and no TANK's; no number and above what is told; in quotes and no TANK's
        E.planeFault("burn abcdefghi 1;", 1, 5);
        E.planeFault("burn stop 1;", 1, 5);
        E.planeFault("burn 5 1;", 1, 5);
        E.planeFault("burn ! 1;", 1, 5);
        E.planeFault("burn ; 1;", 1, 5);
        E.planeFault("burn", 1, 4);
        E.planeFault("empty 1000 1;", 1, 6);
        E.planeFault("tank t 1 1000;", 1, 9);
        E.cargoFault("pallet a 100 10;", 2, 9);
        E.cargoFault(FIVE + "pallet a 0 0", 4, FIVE.length());
        E.cargoFault("bulk 1;bulk 199;", 3, 7);
        LoadSpans x = new LoadSpans();
        Texts.plane(x, "empty 0 0;");
        Texts.plane(x, "! empty 0 0;");
        E.is("a FAULT of the text before is gone", x.fault(), 1);
    }

    private static void oddTokens() {
        E.sentence("1 what is no word, number, ; or can't stand there (at it;");
        E.planeFault("!", 1, 0);
        E.planeFault("   !", 1, 3);
        E.planeFault(";", 1, 0);
        E.planeFault("stop;;", 1, 5);
        E.planeFault("5;", 1, 0);
        E.planeFault("a;", 1, 0);
        E.planeFault("front;", 1, 0);
        E.planeFault("back;", 1, 0);
        E.planeFault("pallet a 1 1;", 1, 0);
        E.planeFault("bulk 1;", 1, 0);
        E.planeFault("stop 1;", 1, 5);
        E.planeFault("stop stop;", 1, 5);
        for (String word : new String[] {"empty 1 1;", "span 1 2;", HOLD, SPOT, "joint 1;", "bin 1 1;", "tank a 1 1;",
            "burn a 1;", "stop;", "front;", "a 1 1;"}) {
            E.cargoFault(word, 1, 0);
        }
        E.planeFault("empty a 1;", 1, 6);
        E.planeFault("empty 1 a;", 1, 8);
        E.planeFault("span a 1;", 1, 5);
        E.planeFault("span 1 ;", 1, 7);
        E.planeFault("hold 1 1 front;", 1, 5);
        E.planeFault("hold a a front;", 1, 7);
        E.planeFault(HOLD + "spot a 1;", 1, 22);
        E.planeFault(HOLD + "spot 1 a;", 1, 24);
        E.planeFault(TWO_SPOTS + "joint a;", 1, 41);
        E.planeFault("bin a 1;", 1, 4);
        E.planeFault("bin 1 a;", 1, 6);
        E.planeFault("tank a a 1;", 1, 7);
        E.planeFault("tank a 1 a;", 1, 9);
        E.planeFault(TANK + "burn t a;", 1, 19);
        E.cargoFault("pallet a a 1;", 1, 9);
        E.cargoFault("pallet a 1 a;", 1, 11);
        E.cargoFault("bulk a;", 1, 5);
        E.cargoFault("bulk 1 1;", 1, 7);
        // what is no TOKEN that there is ends no LINE
        for (String odd : new String[] {"5a", "a5", "abcdefghi", "1000", "0005"}) {
            E.planeFault("stop " + odd, 1, 5);
            E.planeFault("stop " + odd + " stop;", 1, 5);
            E.cargoFault("bulk 5 " + odd, 1, 7);
        }
        nearWords();
    }

    /** Words that are those in quotes but for a letter. */
    private static void nearWords() {
        String[] lines = {"empty 1 1;", "span 1 2;", HOLD, "bin 1 1;", "tank a 1 1;", "stop;"};
        for (String line : lines) {
            int end = Math.min(line.indexOf(';'), line.contains(" ") ? line.indexOf(' ') : 9);
            String rest = line.substring(end);
            E.planeFault("z" + line.substring(1), 1, 0);
            E.planeFault(line.substring(0, end - 1) + "z" + rest, 1, 0);
            E.planeFault(line.substring(0, end - 1) + rest, 1, 0);
            E.planeFault(line.substring(0, end) + "z" + rest, 1, 0);
            E.planeFault(line.substring(1), 1, 0);
        }
        E.planeFault(HOLD + "zpot 1 1;", 1, HOLD.length());
        E.planeFault(TWO_SPOTS + "zoint 1;", 1, TWO_SPOTS.length());
        E.planeFault(TANK + "zurn t 1;", 1, TANK.length());
        E.cargoFault("zallet a 1 1;", 1, 0);
        E.cargoFault("zulk 1;", 1, 0);
        E.planeFault("hold a 1 zront;", 1, 9);
        E.planeFault("hold a 1 zack;", 1, 9);
        // none of those in quotes: NAMES
        E.plane("hold zront 1 front;hold zack 1 back;tank zurn 1 1;", 0);
        E.cargo("pallet zallet 1 1;pallet zulk 1 1;pallet stoz 1 1;", 3);
    }

    /** Each good text, cut behind each of its TOKENS: only behind a ; it may end. */
    private static void theEnd() {
        E.sentence("the end: how many bytes there are;");
        String[] planes = {"empty 1 1 ;", "span 1 2 ;", "hold a 1 front ;", "hold a 1 back ;", HOLD + "spot 1 1 ;",
            TWO_SPOTS + "joint 1 ;", "bin 1 1 ;", "tank a 1 1 ;", TANK + "burn t 1 ;", "stop ;"};
        for (String text : planes) {
            for (int at = text.lastIndexOf(';', text.length() - 2) + 2; at < text.length(); at++) {
                if (text.charAt(at) == ' ') {
                    E.planeFault(text.substring(0, at), 1, at);
                    E.planeFault(text.substring(0, at) + "   ", 1, at + 3);
                }
            }
            E.is("whole: " + text, Texts.plane(new LoadSpans(), text) >= 0, true);
        }
        for (String text : new String[] {"pallet a 1 1 ;", "bulk 1 ;"}) {
            for (int at = 4; at < text.length(); at++) {
                if (text.charAt(at) == ' ') {
                    E.cargoFault(text.substring(0, at), 1, at);
                    E.cargoFault(text.substring(0, at) + " ", 1, at + 1);
                }
            }
            E.is("whole: " + text, Texts.cargo(new LoadSpans(), text) >= 0, true);
        }
        E.planeFault(blanks(496) + "stop", 1, 500);
        E.plane(blanks(495) + "stop;", 0);
        E.cargoFault(blanks(294) + "bulk 1", 1, 300);
    }

    private static void wrongNumbers() {
        E.sentence("2 a number that is not as told (at it);");
        E.planeFault("empty 0 1;", 2, 6);
        E.planeFault("empty   000 1;", 2, 8);
        E.planeFault("span 100 1;", 2, 5);
        E.planeFault("span 1 1;", 2, 7);
        E.planeFault("hold a 0 front;", 2, 7);
        E.planeFault(HOLD + "spot 1 0;", 2, 24);
        E.planeFault(TWO_SPOTS + "joint 0;", 2, 41);
        E.planeFault("bin 1 0;", 2, 6);
        E.planeFault("tank a 1 0;", 2, 9);
        E.planeFault("tank t 1 1;burn t 2;", 2, 18);
        E.cargoFault("pallet a 0 1;", 2, 9);
        E.cargoFault("pallet a 1 0;", 2, 11);
        E.cargoFault("bulk 199;", 2, 5);
        E.cargoFault("bulk 999;", 2, 5);
    }

    private static void wrongNames() {
        E.sentence("3 a NAME told twice, one that is no TANK's, empty, span, bulk told again (at the word);");
        E.planeFault("tank a 1 1;tank   a 1 1;", 3, 18);
        E.planeFault("hold a 1 front;hold a 1 front;", 3, 20);
        E.planeFault("burn a 1;", 3, 5);
        E.planeFault("hold a 1 front;burn a 1;", 3, 20);
        E.planeFault("tank a 1 1;burn b 1;", 3, 16);
        E.planeFault("tank a 1 1;burn aa 1;", 3, 16);
        E.planeFault("burn a 1;tank a 1 1;", 3, 5);
        E.planeFault("empty 1 1;  empty 1 1;", 3, 12);
        E.planeFault("span 1 2;span 1 2;", 3, 9);
        E.cargoFault("bulk 1; bulk 1;", 3, 8);
        E.cargoFault("pallet a 1 1;pallet a 1 1;", 3, 20);
        E.cargoFault("pallet a 1 1;pallet b 1 1;pallet c 1 1;pallet d 1 1;pallet a 1 1;", 3, 59);
        LoadSpans x = E.plane("tank a 1 1;", 0);
        E.is("a TANK of the PLANE before is none", Texts.plane(x, "burn a 1;"), -1005);
        E.is("fault()", x.fault(), 3);
    }

    private static void oneTooMany() {
        E.sentence("4 one too many (at the LINE's first word);");
        E.planeFault(THREE_HOLDS + " hold", 4, THREE_HOLDS.length() + 1);
        E.planeFault(SIX_SPOTS + "hold g 9 back;  spot 1 1;", 4, SIX_SPOTS.length() + 16);
        E.planeFault(TWO_BINS + " bin", 4, 17);
        E.planeFault(THREE_TANKS + " tank a", 4, THREE_TANKS.length() + 1);
        E.planeFault("stop;stop;stop;stop; stop", 4, 21);
        E.planeFault(TANK + BURN.repeat(12) + " burn u", 4, 12 + 108 + 1);
        E.cargoFault(FIVE + " pallet", 4, FIVE.length() + 1);
    }

    private static void noFloor() {
        E.sentence("5 a spot without a HOLD, a joint without two SPOTS of the latest HOLD, or of two that have one (at the word).");
        E.planeFault("spot 1 1;", 5, 0);
        E.planeFault("stop;  spot", 5, 7);
        E.planeFault("joint 1;", 5, 0);
        E.planeFault(HOLD + "joint 1;", 5, 17);
        E.planeFault(HOLD + SPOT + " joint 1;", 5, 27);
        E.planeFault(TWO_SPOTS + "hold g 9 back;joint 1;", 5, 49);
        E.planeFault(TWO_SPOTS + "hold g 9 back;spot 1 1;joint 1;", 5, 58);
        E.plane(TWO_SPOTS + "hold g 9 back;spot 1 1;spot 1 1;joint 1;", 4);
        E.planeFault(TWO_SPOTS + "joint 1;joint 1;", 5, 43);
        E.plane(TWO_SPOTS + "joint 1;spot 1 1;joint 1;", 3);
        E.planeFault(TWO_SPOTS + "joint 1;spot 1 1;joint 1;stop;joint", 5, 65);
        // the latest two are no pair of a HOLD's, though all HOLDS have SPOTS
        E.planeFault("hold a 9 front;spot 1 1;hold b 9 front;spot 1 1;joint 1;", 5, 48);
        LoadSpans x = E.plane(TWO_SPOTS, 2);
        E.is("a HOLD of the PLANE before is none", Texts.plane(x, SPOT), -1000);
        E.is("SPOTS of the PLANE before are none", Texts.plane(x, HOLD + "joint 1;"), -1017);
    }
}
