/** The edges of how all lies ("Terms", 2): a test for each sentence of the document that names one. */
public final class RuleEdgesTest {
    private static final Edges E = new Edges("RuleEdgesTest");
    private static final LoadSpans USED = new LoadSpans();

    public static void main(String[] args) {
        orderOfComing();
        oneOnASpot();
        ways();
        stageNought();
        burns();
        stops();
        aboard();
        inSpan();
        firstRule();
        ruleOut();
        ruleSpot();
        ruleJoint();
        ruleHold();
        ruleBins();
        ruleBlocked();
        ruleSpan();
        goodLoadings();
        goodAtTheEdges();
        orderOfLoadings();
        moves();
        likeRows();
        handlings();
        E.close();
    }

    private static LoadSpans lying(String plane, String cargo, int... spots) {
        LoadSpans x = Texts.loader(plane, cargo);
        for (int k = 0; k < spots.length; k++) {
            if (spots[k] >= 0) {
                x.put(k, spots[k]);
            }
        }
        return x;
    }

    private static void broken(String what, LoadSpans x, int rule, int where) {
        E.is(what + ": why()", x.why(), rule);
        E.is(what + ": where()", x.where(), where);
    }

    private static String pallets(int many, int weight, int stop) {
        StringBuilder all = new StringBuilder();
        for (int k = 0; k < many; k++) {
            all.append("pallet ").append((char) ('a' + k)).append(' ').append(weight).append(' ').append(stop).append(';');
        }
        return all.toString();
    }

    private static void orderOfComing() {
        E.sentence("PALLETS numbered from 0 in the order in which they came.");
        LoadSpans x = Texts.loader("", "pallet z 3 1;bulk 5;pallet a 2 1;");
        E.is("the first told", x.pallet(0, 0), 3);
        E.is("the second told", x.pallet(1, 0), 2);
        x.come(1, 1);
        E.is("the first that comes", x.pallet(2, 0), 1);
        x.again(0);
        E.is("the second told is the first now", x.pallet(0, 0), 2);
        E.is("the first told came last", x.pallet(2, 0), 3);
    }

    private static void oneOnASpot() {
        E.sentence("A PALLET lies on a SPOT or is OUT; each SPOT has one at most.");
        LoadSpans x = Texts.loader("hold a 999 front;" + "spot 50 9;".repeat(6), pallets(5, 1, 1));
        for (int k = 0; k < 5; k++) {
            E.is("OUT at first", x.pallet(k, 2), -1);
        }
        for (int k = 0; k < 5; k++) {
            E.is("put(" + k + ", 5)", x.put(k, 5), k == 0 ? 0 : 1);
        }
        E.is("on 5", x.spot(5, 3), 0);
        E.is("OUT", x.count(9), 4);
        for (int k = 0; k < 5; k++) {
            x.put(k, k);
        }
        E.is("none is OUT", x.count(9), 0);
        E.is("one SPOT is empty", x.spot(5, 3), -1);
        E.is("to one that is taken", x.put(0, 4), 1);
        E.is("to the empty one", x.put(0, 5), 0);
        E.is("where it lay none lies", x.spot(0, 3), -1);
    }

    private static void ways() {
        E.sentence("front: over the SPOTS of that HOLD told ahead of it; back: over those told behind it.");
        LoadSpans front = E.plane("hold a 9 front;" + "spot 1 1;".repeat(6), 6);
        LoadSpans back = E.plane("hold a 9 back;" + "spot 1 1;".repeat(6), 6);
        int[] ahead = {0, 1, 3, 7, 15, 31};
        int[] behind = {62, 60, 56, 48, 32, 0};
        for (int s = 0; s < 6; s++) {
            E.is("front " + s, front.spot(s, 4), ahead[s]);
            E.is("back " + s, back.spot(s, 4), behind[s]);
        }
        LoadSpans both = E.plane("hold a 9 front;spot 1 1;spot 1 1;hold b 9 back;spot 1 1;spot 1 1;hold c 9 front;spot 1 1;"
            + "spot 1 1;", 6);
        int[] ways = {0, 1, 8, 0, 0, 16};
        for (int s = 0; s < 6; s++) {
            E.is("of three HOLDS " + s, both.spot(s, 4), ways[s]);
        }
        LoadSpans alone = E.plane("hold a 9 front;spot 1 1;hold b 9 back;spot 1 1;", 2);
        E.is("the only one of a HOLD", alone.spot(0, 4), 0);
        E.is("the only one of a HOLD", alone.spot(1, 4), 0);
    }

    private static void stageNought() {
        E.sentence("STAGE 0 is how all lies; STAGE i behind the i-th of the burns and stops:");
        LoadSpans x = lying("hold a 99 front;spot 50 99;tank t 10 9;burn t 4;stop;burn t 5;", "pallet a 7 1;", 0);
        int[] weights = {116, 112, 105, 100};
        int[] moments = {5000 + 350 + 90, 5000 + 350 + 50, 5000 + 50, 5000};
        for (int i = 0; i < 4; i++) {
            E.is("stage(" + i + ", 0)", x.stage(i, 0), weights[i]);
            E.is("stage(" + i + ", 1)", x.stage(i, 1), moments[i]);
        }
        E.is("behind the last", x.stage(4, 0), -1000000);
        E.is("without any: stage(0, 0)", new LoadSpans().stage(0, 0), 100);
        E.is("without any: stage(1, 0)", new LoadSpans().stage(1, 0), -1000000);
        LoadSpans most = E.plane("stop;stop;stop;stop;tank t 7 99;" + "burn t 9;".repeat(8), 0);
        E.is("the 12th", most.stage(12, 0), 100 + 99 - 72);
        E.is("a 13th", most.stage(13, 0), -1000000);
    }

    private static void burns() {
        E.sentence("a burn takes WEIGHT from its TANK");
        LoadSpans x = E.plane("tank a 1 10;tank b 2 20;tank c 3 30;burn c 30;burn a 1;burn b 20;burn a 9;", 0);
        int[] weights = {160, 130, 129, 109, 100};
        int[] moments = {5140, 5050, 5049, 5009, 5000};
        for (int i = 0; i < 5; i++) {
            E.is("stage(" + i + ", 0)", x.stage(i, 0), weights[i]);
            E.is("stage(" + i + ", 1)", x.stage(i, 1), moments[i]);
        }
        E.is("in(1, 2) is what was in it at first", x.in(1, 2), 30);
    }

    private static void stops() {
        E.sentence("the k-th stop (from 1) takes off all PALLETS with STOP k.");
        LoadSpans x = lying("hold a 999 front;" + "spot 50 99;".repeat(5) + "stop;stop;stop;stop;",
            "pallet a 1 1;pallet b 2 4;pallet c 4 5;pallet d 8 1;pallet e 16 9;", 0, 1, 2, 3, 4);
        int[] weights = {131, 122, 122, 122, 120};
        for (int i = 0; i < 5; i++) {
            E.is("stage(" + i + ", 0)", x.stage(i, 0), weights[i]);
        }
        LoadSpans y = lying("hold a 99 front;spot 50 99;tank t 1 9;burn t 9;", "pallet a 5 1;", 0);
        E.is("without stops none goes", y.stage(1, 0), 105);
    }

    private static void aboard() {
        E.sentence("all that is aboard (the empty PLANE, what is in TANKS, in BINS, PALLETS on SPOTS)"
            + " has a WEIGHT and a MOMENT (WEIGHTS by ARMS).");
        LoadSpans x = Texts.loader("hold a 99 front;spot 9 99;bin 1 50;bin 2 50;tank t 3 5;", "pallet a 20 1;bulk 99;");
        E.is("one that is OUT is not: WEIGHT", x.stage(0, 0), 105);
        E.is("one that is OUT is not: MOMENT", x.stage(0, 1), 5015);
        x.put(0, 0);
        x.pour(0, 30);
        x.pour(1, 40);
        E.is("all: WEIGHT", x.stage(0, 0), 195);
        E.is("all: MOMENT", x.stage(0, 1), 5015 + 180 + 30 + 80);
        LoadSpans most = lying("empty 999 99;span 0 1;hold a 999 back;" + "spot 99 99;".repeat(5)
            + "bin 99 99;bin 99 99;tank t 99 99;tank u 99 99;tank v 99 99;", pallets(5, 99, 1), 0, 1, 2, 3, 4);
        most.pour(0, 99);
        most.pour(1, 99);
        E.is("the most: WEIGHT", most.stage(0, 0), 1989);
        E.is("the most: MOMENT", most.stage(0, 1), 196911);
        E.is("the most: above 0", most.stage(0, 2), 196911);
        E.is("the most: below 1", most.stage(0, 3), -194922);
        E.is("the least", E.plane("empty 1 0;", 0).stage(0, 1), 0);
    }

    private static void inSpan() {
        E.sentence("It is IN SPAN, if MOMENT is not below WEIGHT by the lesser ARM, and not above that by the greater one.");
        // 100 at 50 and w at 0: 5000 - 40 by (100 + w)
        for (int w : new int[] {24, 25, 26}) {
            LoadSpans x = lying("hold a 99 front;spot 0 99;", "pallet a " + w + " 1;", 0);
            E.is("stage(0, 2) with " + w + " at 0", x.stage(0, 2), 1000 - 40 * w);
            broken("with " + w + " at 0", x, w > 25 ? 7 : 0, w > 25 ? 0 : -1);
        }
        // 100 at 50 and w at 80: 60 by (100 + w) - 5000 - 80 by w
        for (int w : new int[] {49, 50, 51}) {
            LoadSpans x = lying("hold a 99 front;spot 80 99;", "pallet a " + w + " 1;", 0);
            E.is("stage(0, 3) with " + w + " at 80", x.stage(0, 3), 1000 - 20 * w);
            broken("with " + w + " at 80", x, w > 50 ? 7 : 0, w > 50 ? 0 : -1);
        }
        E.is("just at the lesser ARM", E.plane("span 50 51;", 0).why(), 0);
        E.is("just at the greater ARM", E.plane("span 49 50;", 0).why(), 0);
        E.is("below the lesser ARM", E.plane("span 51 52;", 0).why(), 7);
        E.is("above the greater ARM", E.plane("span 48 49;", 0).why(), 7);
        // one off by a single unit of MOMENT
        LoadSpans x = Texts.loader("span 50 51;bin 49 1;", "bulk 1;");
        x.pour(0, 1);
        E.is("one unit below: stage(0, 2)", x.stage(0, 2), -1);
        broken("one unit below", x, 7, 0);
        x = Texts.loader("span 49 50;bin 51 1;", "bulk 1;");
        x.pour(0, 1);
        E.is("one unit above: stage(0, 3)", x.stage(0, 3), -1);
        broken("one unit above", x, 7, 0);
    }

    /** All of them are broken, then one by one is mended. */
    private static void firstRule() {
        E.sentence("RULES, the first one broken:");
        LoadSpans x = lying("span 49 51;hold a 35 front;spot 50 20;spot 50 20;joint 36;spot 50 20;spot 50 20;bin 99 5;bin 50 5;",
            "pallet p 21 1;pallet q 20 2;pallet r 1 1;bulk 5;", 1, 0);
        broken("r is OUT", x, 1, 2);
        x.put(2, 2);
        broken("21 on SPOT 1", x, 2, 1);
        x.weigh(0, 20);
        broken("40 on the JOINT", x, 3, 0);
        x.weigh(0, 16);
        broken("37 in the HOLD", x, 4, 0);
        x.weigh(0, 14);
        broken("nothing in BINS", x, 5, 0);
        x.pour(0, 5);
        broken("q on 0 is in the way of p on 1", x, 6, 1);
        x.put(1, 3);
        broken("5 at 99", x, 7, 0);
        x.pour(0, 0);
        x.pour(1, 5);
        broken("all mended", x, 0, -1);
    }

    private static void ruleOut() {
        E.sentence("1 a PALLET is OUT (the least);");
        LoadSpans x = Texts.loader("hold a 999 front;" + "spot 50 9;".repeat(5), pallets(5, 1, 1));
        for (int k = 0; k < 5; k++) {
            broken("from " + k + " on all are OUT", x, 1, k);
            x.put(k, k);
        }
        broken("none is OUT", x, 0, -1);
        x.off(4);
        broken("the last one is OUT", x, 1, 4);
        x.off(0);
        broken("the first one, too", x, 1, 0);
        broken("there is none", new LoadSpans(), 0, -1);
    }

    private static void ruleSpot() {
        E.sentence("2 it is above the LIMIT of its SPOT (the least SPOT);");
        LoadSpans x = lying("hold a 999 front;" + "spot 50 9;".repeat(6), pallets(2, 9, 1), 5, 0);
        broken("at the LIMIT", x, 0, -1);
        x.weigh(0, 10);
        broken("one above it on the last SPOT", x, 2, 5);
        x.weigh(1, 10);
        broken("one above it on SPOT 0, too", x, 2, 0);
        x.weigh(1, 8);
        x.weigh(0, 8);
        broken("one below it", x, 0, -1);
    }

    private static void ruleJoint() {
        E.sentence("3 a JOINT (the least; numbered as told);");
        LoadSpans x = lying("hold a 999 front;spot 50 99;spot 50 99;joint 20;hold b 999 back;spot 50 99;spot 50 99;spot 50 99;"
            + "joint 10;", pallets(4, 5, 1), 3, 4, 0, 1);
        broken("at its LIMIT", x, 0, -1);
        x.weigh(0, 6);
        broken("one above the second one's", x, 3, 1);
        x.weigh(3, 16);
        broken("one above the first one's, too", x, 3, 0);
        x.weigh(0, 5);
        x.weigh(3, 15);
        broken("at their LIMITS", x, 0, -1);
        x.drop(3);
        x.weigh(2, 20);
        broken("one alone at its LIMIT", x, 0, -1);
        x.weigh(2, 21);
        broken("one alone above it", x, 3, 0);
        // SPOTS 1 and 2 are side by side, but of two HOLDS, 2 and 3 have none
        LoadSpans y = lying("hold a 999 front;spot 50 99;spot 50 99;joint 20;hold b 999 back;spot 50 99;spot 50 99;spot 50 99;"
            + "joint 10;", "pallet a 20 1;pallet b 50 1;pallet c 10 1;", 1, 2, 3);
        broken("no JOINT between 1, 2 and 3", y, 0, -1);
        LoadSpans z = lying("hold a 999 front;spot 50 99;" + "spot 50 99;joint 9;".repeat(5), pallets(5, 4, 1), 1, 2, 3, 4, 5);
        broken("8 on each of 5 JOINTS of 9", z, 0, -1);
        z.weigh(4, 6);
        broken("10 on the last one", z, 3, 4);
    }

    private static void ruleHold() {
        E.sentence("4 a HOLD is above its LIMIT (the least);");
        LoadSpans x = lying("hold a 10 front;spot 50 99;hold e 1 back;hold b 20 back;spot 50 99;spot 50 99;", pallets(3, 10, 1), 0, 1, 2);
        broken("at their LIMITS", x, 0, -1);
        x.weigh(2, 11);
        broken("the last one is one above", x, 4, 2);
        x.weigh(0, 11);
        broken("the first one, too", x, 4, 0);
        x.weigh(2, 10);
        x.weigh(0, 9);
        broken("one below", x, 0, -1);
    }

    private static void ruleBins() {
        E.sentence("5 what is in BINS is not as much as is told of bulk (0);");
        LoadSpans x = Texts.loader("bin 50 99;bin 50 99;", "bulk 100;");
        int[][] poured = {{0, 0, 5}, {99, 0, 5}, {99, 1, 0}, {99, 2, 5}, {1, 99, 0}, {50, 50, 0}, {50, 49, 5}, {50, 51, 5},
            {99, 99, 5}};
        for (int[] two : poured) {
            x.pour(0, two[0]);
            x.pour(1, two[1]);
            broken(two[0] + " and " + two[1], x, two[2], two[2] == 5 ? 0 : -1);
        }
        LoadSpans most = Texts.loader("bin 50 99;bin 50 99;", "bulk 198;");
        most.pour(0, 99);
        most.pour(1, 98);
        broken("197 of 198", most, 5, 0);
        most.pour(1, 99);
        broken("198 of 198", most, 0, -1);
        LoadSpans none = Texts.loader("bin 50 1;", "");
        broken("no bulk", none, 0, -1);
        none.pour(0, 1);
        broken("1 in a BIN without bulk", none, 5, 0);
        broken("bulk without BINS", Texts.loader("", "bulk 1;"), 5, 0);
        broken("bulk 0 without BINS", Texts.loader("", "bulk 0;"), 0, -1);
    }

    private static void ruleBlocked() {
        E.sentence("6 a PALLET is BLOCKED: on its way to the DOOR lies one of a later STOP (the least SPOT of one that is BLOCKED);");
        String front = "hold a 999 front;spot 50 9;spot 50 9;spot 50 9;";
        broken("a later one behind", lying(front, "pallet a 1 1;pallet b 1 2;", 0, 1), 0, -1);
        broken("a like one ahead", lying(front, "pallet a 1 2;pallet b 1 2;", 1, 0), 0, -1);
        broken("a later one ahead", lying(front, "pallet a 1 1;pallet b 1 2;", 1, 0), 6, 1);
        broken("later by one, farther by two", lying(front, "pallet a 1 8;pallet b 1 9;", 2, 0), 6, 2);
        broken("two are BLOCKED", lying(front, "pallet a 1 1;pallet b 1 1;pallet c 1 2;", 2, 1, 0), 6, 1);
        broken("c by b alone", lying(front, "pallet a 1 1;pallet b 1 2;pallet c 1 1;", 0, 1, 2), 6, 2);
        String back = front.replace("front", "back");
        broken("back: a later one told ahead", lying(back, "pallet a 1 1;pallet b 1 2;", 1, 0), 0, -1);
        broken("back: a later one told behind", lying(back, "pallet a 1 1;pallet b 1 2;", 0, 1), 6, 0);
        broken("back: two are BLOCKED", lying(back, "pallet a 1 1;pallet b 1 1;pallet c 1 2;", 0, 1, 2), 6, 0);
        String two = "hold a 999 front;spot 50 9;hold b 999 front;spot 50 9;spot 50 9;";
        broken("one of another HOLD", lying(two, "pallet a 1 1;pallet b 1 2;", 1, 0), 0, -1);
        broken("in the second HOLD", lying(two, "pallet a 1 1;pallet b 1 2;", 2, 1), 6, 2);
    }

    private static void ruleSpan() {
        E.sentence("7 at a STAGE it is not IN SPAN (the least STAGE).");
        // 100 at 50; a draws to 0, b to 99; 11 STAGES of burns that draw nowhere, then a is taken off
        String plane = "span 40 60;hold h 999 front;spot 0 99;spot 99 99;tank t 50 99;" + "burn t 1;".repeat(11) + "stop;";
        LoadSpans x = lying(plane, "pallet a 99 2;pallet b 99 2;", 0, 1);
        broken("they level each other to the end", x, 0, -1);
        x = lying(plane, "pallet a 99 1;pallet b 99 2;", 0, 1);
        broken("at the last STAGE alone", x, 7, 12);
        x = lying(plane, "pallet a 99 1;pallet b 99 2;", 0);
        x.drop(1);
        broken("at all STAGES but the last", x, 7, 0);
        x = lying("span 49 50;tank t 99 9;tank u 0 99;burn u 9;burn u 90;", "");
        // 208 at 50: 5891; 199: 5891 (9900 - 50 by 9); 109: 5891 above 5450
        broken("not below at 0", x, 7, 0);
        x = lying("span 40 52;tank t 99 9;tank u 50 20;burn u 10;burn u 10;stop;burn t 9;", "");
        // 129: 6891, up to 6708
        broken("above at the first ones", x, 7, 0);
        x = lying("span 40 54;tank t 99 9;tank u 40 40;burn u 20;burn u 20;burn t 9;", "");
        // 149: 7491 of 8046; 129: 6691 of 6966; 109: 5891 of 5886; 100: 5000
        broken("above at STAGE 2 alone", x, 7, 2);
        E.is("stage(2, 3)", x.stage(2, 3), -5);
        E.is("stage(1, 3)", x.stage(1, 3), 275);
        E.is("stage(3, 3)", x.stage(3, 3), 400);
    }

    private static void goodLoadings() {
        E.sentence("A LOADING (of all PALLETS, and of BINS) is GOOD, if none is broken.");
        E.is("none of either", new LoadSpans().loadings(), 1);
        E.is("no PALLET on SPOTS", Texts.loader("hold a 9 front;spot 1 1;", "").loadings(), 1);
        E.is("a PALLET without SPOTS", Texts.loader("", "pallet a 1 1;").loadings(), 0);
        E.is("as many as SPOTS", Texts.loader("hold a 9 front;spot 50 1;", pallets(1, 1, 1)).loadings(), 1);
        E.is("one more", Texts.loader("hold a 9 front;spot 50 1;", pallets(2, 1, 1)).loadings(), 0);
        E.is("no bulk in BINS", Texts.loader("bin 50 9;bin 50 9;", "").loadings(), 1);
        for (int bulk = 0; bulk <= 20; bulk++) {
            int ways = bulk <= 9 ? bulk + 1 : Math.max(0, 19 - bulk);
            E.is("bulk " + bulk + " in two BINS of 9", Texts.loader("bin 50 9;bin 50 9;", "bulk " + bulk + ";").loadings(), ways);
            E.is("bulk " + bulk + " in a BIN of 9", Texts.loader("bin 50 9;", "bulk " + bulk + ";").loadings(), bulk <= 9 ? 1 : 0);
        }
        String six = "span 1 99;hold a 999 front;" + "spot 50 99;".repeat(6);
        int[] most = {1, 6, 30, 120, 360, 720};
        for (int k = 0; k <= 5; k++) {
            E.is(k + " PALLETS on 6 SPOTS", Texts.loader(six, pallets(k, 99, 1)).loadings(), most[k]);
        }
        E.is("an empty PLANE that is not IN SPAN", Texts.loader("span 51 99;", "").loadings(), 0);
    }

    /** The LOADINGS told are those that are GOOD when all is laid so, at each RULE's edge and one beyond. */
    private static void goodAtTheEdges() {
        String three = "hold a 999 front;spot 50 99;spot 50 99;spot 50 99;";
        for (int more = -1; more <= 1; more++) {
            String weights = "pallet a " + (20 + more) + " 1;pallet b 15 1;";
            alike("hold a 999 front;spot 50 20;spot 50 15;spot 50 99;", weights);
            alike("hold a 999 front;spot 50 99;spot 50 99;joint 35;spot 50 99;spot 50 99;joint 19;", weights);
            alike("hold a 35 front;spot 50 99;spot 50 99;hold b 20 back;spot 50 99;hold c 15 back;spot 50 99;", weights);
            alike(three + "bin 50 3;", "pallet a 1 1;bulk " + (3 + more) + ";");
            alike(three + "bin 50 3;bin 50 2;", "pallet a 1 1;bulk " + (5 + more) + ";");
            alike(three, "pallet a 1 " + (5 + more) + ";pallet b 1 5;pallet c 1 5;");
            alike(three.replace("front", "back"), "pallet a 1 " + (5 + more) + ";pallet b 1 5;pallet c 1 5;");
            // 5000 + ARM is from 50 by 101 at ARM 50 on, up to it
            String arms = "hold a 999 front;spot 49 9;spot 50 9;spot 51 9;";
            alike("span " + (50 + Math.min(more, 0)) + " " + (51 + Math.min(more, 0)) + ";" + arms, "pallet a 1 1;");
            alike("span 49 50;" + arms + "bin 49 1;", "pallet a 1 1;bulk 1;");
            alike("span 50 51;" + arms + "bin 51 1;", "pallet a 1 1;bulk 1;");
            alike("span 50 51;" + arms + "bin 49 2;bin 52 2;", "pallet a 1 1;bulk 2;");
            alike("span 49 50;" + arms + "bin 52 2;bin 48 2;", "pallet a 1 1;bulk 2;");
            alike("span 40 60;hold a 999 front;spot 0 99;spot 99 99;stop;tank t 50 9;burn t 1;stop;stop;burn t 1;stop;",
                "pallet a " + (25 + more) + " 4;pallet b " + (25 + more) + " 3;");
        }
        String stops = "stop;tank t 50 9;burn t 1;stop;stop;burn t 8;stop;";
        for (int w = 15; w < 35; w++) {
            alike("span 40 60;hold a 999 front;spot 0 99;spot 90 99;" + stops, "pallet a " + w + " 1;pallet b 25 2;");
            alike("span 40 60;hold a 999 front;spot 90 99;spot 5 99;" + stops, "pallet a " + w + " 5;pallet b 25 4;");
            alike("span 40 60;hold a 999 back;spot 90 99;spot 5 99;bin 10 2;bin 80 2;" + stops,
                "pallet a 20 9;pallet b " + w + " 3;bulk 2;");
        }
    }

    /** The object is one for all of them: nothing of the texts before may count. */
    private static void alike(String plane, String cargo) {
        LoadSpans x = USED;
        E.is("no FAULT: " + plane, Texts.plane(x, plane) >= 0, true);
        E.is("no FAULT: " + cargo, Texts.cargo(x, cargo) >= 0, true);
        int found = layAll(x, 0, 0);
        E.is("loadings() of " + plane + cargo, x.loadings(), found);
    }

    /** Lays PALLET k and those behind it in all ways, in order; answers how many were GOOD up to then. */
    private static int layAll(LoadSpans x, int k, int foundBefore) {
        int found = foundBefore;
        if (k == x.count(7)) {
            return pourAll(x, 0, found);
        }
        for (int s = 0; s < x.count(1); s++) {
            if (x.put(k, s) == 0) {
                found = layAll(x, k + 1, found);
                x.off(k);
            }
        }
        return found;
    }

    private static int pourAll(LoadSpans x, int b, int foundBefore) {
        int found = foundBefore;
        if (b == x.count(3)) {
            if (x.why() != 0) {
                return found;
            }
            for (int k = 0; k < x.count(7); k++) {
                E.is("loading(" + found + ", " + k + ")", x.loading(found, k), x.pallet(k, 2));
            }
            for (int bin = 0; bin < x.count(3); bin++) {
                E.is("poured(" + found + ", " + bin + ")", x.poured(found, bin), x.in(0, bin));
            }
            return found + 1;
        }
        for (int n = 0; x.pour(b, n) >= 0; n++) {
            found = pourAll(x, b + 1, found);
        }
        return found;
    }

    private static void orderOfLoadings() {
        E.sentence("LOADINGS in order: PALLET by PALLET the least SPOT, then BIN by BIN the least amount.");
        LoadSpans x = Texts.loader("hold a 999 back;spot 50 9;spot 50 9;spot 50 9;bin 50 2;bin 50 2;", pallets(2, 1, 1) + "bulk 2;");
        int i = 0;
        for (int a = 0; a < 3; a++) {
            for (int b = 0; b < 3; b++) {
                for (int n = 0; n <= 2 && a != b; n++) {
                    E.is("loading(" + i + ", 0)", x.loading(i, 0), a);
                    E.is("loading(" + i + ", 1)", x.loading(i, 1), b);
                    E.is("poured(" + i + ", 0)", x.poured(i, 0), n);
                    E.is("poured(" + i + ", 1)", x.poured(i, 1), 2 - n);
                    i++;
                }
            }
        }
        E.is("loadings()", x.loadings(), i);
        x.again(0);
        E.is("in the order in which they came", x.loading(3, 0), 0);
        E.is("in the order in which they came", x.loading(3, 1), 2);
    }

    private static void moves() {
        E.sentence("A MOVE: a PALLET that is OUT, or on a SPOT, comes to a SPOT that is empty.");
        String fits = "hold a 999 front;spot 50 1;spot 50 2;";
        LoadSpans x = lying(fits, "pallet a 2 1;pallet b 1 1;", 0, 1);
        E.is("to change places without an empty SPOT", x.mend(), -1);
        x = lying(fits, "pallet a 2 1;pallet b 1 1;", 0, -1);
        E.is("one on a SPOT, then one that is OUT", x.mend(), 2);
        E.is("a to 1", x.move(0), 1);
        E.is("b to 0", x.move(1), 10);
        x = lying(fits + "spot 50 1;", "pallet a 2 1;pallet b 1 1;", 0, 1);
        E.is("b aside is GOOD then", x.mend(), 2);
        E.is("b to 2", x.move(0), 12);
        E.is("a to 1", x.move(1), 1);
        x = lying(fits + "spot 50 9;", "pallet a 2 1;pallet b 1 1;pallet c 9 1;", 0, 1);
        E.is("the third one comes last", x.mend(), 4);
        x = lying(fits, "pallet a 2 1;", -1);
        E.is("one that is OUT goes to no SPOT that is taken", x.mend(), 1);
        rings();
    }

    /** A ring of two, one of three, and one that is OUT and whose SPOT is the last that is empty. */
    private static void rings() {
        String fits = "empty 999 50;hold a 999 front;spot 50 10;spot 50 20;spot 50 30;";
        LoadSpans x = lying(fits + "spot 50 1;", "pallet a 10 1;pallet b 20 1;pallet c 30 1;", 1, 0, 2);
        told("two change places over SPOT 3", x, 3, 11, 0);
        x = lying(fits + "spot 50 1;", "pallet a 10 1;pallet b 20 1;pallet c 30 1;", 1, 2, 0);
        told("three go around over SPOT 3", x, 3, 11, 22, 0);
        x = lying(fits.replace("30", "1") + "spot 50 40;", "pallet a 10 1;pallet b 20 1;pallet c 40 1;", 1, 0, -1);
        told("two change places over SPOT 2, then c comes", x, 2, 11, 0, 23);
        x = lying(fits, "pallet a 10 1;pallet b 20 1;pallet c 30 1;", 1, 0, -1);
        told("c waits for the last empty SPOT", x, 2, 11, 0, 22);
        x = lying(fits, "pallet a 30 1;pallet b 10 1;pallet c 20 1;", -1, 1, 0);
        told("a waits for the last empty SPOT, though it is the least", x, 12, 21, 10, 2);
        x = lying(fits + "spot 50 1;", "pallet a 30 1;pallet b 10 1;pallet c 20 1;", -1, 1, 0);
        told("a need not wait: SPOT 3 is left", x, 2, 13, 21, 10);
        x = lying(fits, "pallet a 10 1;pallet b 20 1;pallet c 30 1;", 1, 0, 2);
        E.is("two can't change places without an empty SPOT", x.mend(), -1);
        x = lying(fits, "pallet a 10 1;pallet b 20 1;pallet c 30 1;", 1, 2, -1);
        told("a row that ends at the empty SPOT", x, 0, 11, 22);
    }

    private static void told(String what, LoadSpans x, int... due) {
        E.is(what + ": mend()", x.mend(), due.length);
        for (int i = 0; i < due.length; i++) {
            E.is(what + ": move(" + i + ")", x.move(i), due[i]);
        }
        E.is(what + ": mended()", x.mended(), due.length);
        E.is(what + ": why()", x.why(), 0);
    }

    private static void likeRows() {
        E.sentence("of like rows the first: MOVE by MOVE the least PALLET, then the least SPOT.");
        String same = "hold a 999 front;spot 50 9;spot 50 9;spot 50 9;";
        LoadSpans x = Texts.loader(same, pallets(2, 1, 1));
        E.is("mend()", x.mend(), 2);
        E.is("a to 0", x.move(0), 0);
        E.is("b to 1", x.move(1), 11);
        x.put(1, 0);
        E.is("mend()", x.mend(), 1);
        E.is("a to 1", x.move(0), 1);
        // one of the two must leave SPOT 0: a on 0, later b ahead of a blocks it
        x = lying(same, "pallet a 1 1;pallet b 1 2;", 1, 0);
        E.is("mend()", x.mend(), 1);
        E.is("b to 2, since a has no SPOT ahead of b", x.move(0), 12);
        x = lying(same.replace("front", "back"), "pallet a 1 1;pallet b 1 2;", 0, 1);
        E.is("mend()", x.mend(), 1);
        E.is("a to 2, though b might go", x.move(0), 2);
        E.is("GOOD needs none", lying(same, pallets(2, 1, 1), 2, 0).mend(), 0);
        E.sentence("To MEND: the fewest MOVES by which it is GOOD (BINS as they are);");
        LoadSpans bins = Texts.loader(same + "bin 50 9;", pallets(1, 1, 1) + "bulk 5;");
        for (int n = 0; n <= 9; n++) {
            bins.pour(0, n);
            E.is("with " + n + " of 5", bins.mend(), n == 5 ? 1 : -1);
        }
        bins = Texts.loader(same + "bin 50 5;bin 50 9;", pallets(1, 1, 1) + "bulk 7;");
        for (int n = 0; n <= 5; n++) {
            bins.pour(0, n);
            for (int rest = 0; rest <= 9; rest++) {
                bins.pour(1, rest);
                E.is("with " + n + " and " + rest + " of 7", bins.mend(), n + rest == 7 ? 1 : -1);
            }
        }
    }

    private static void handlings() {
        E.sentence("how often any goes out through a DOOR or in, if one can only go where nothing lies on the way, at the"
            + " fewest (one that is OUT need not go out).");
        String six = "span 1 99;hold a 999 front;" + "spot 50 99;".repeat(6);
        // number of the LOADING with PALLET k on SPOT k: the first; with k on 5 - k: the last
        LoadSpans x = Texts.loader(six, pallets(5, 1, 1));
        E.is("none is needed of none", new LoadSpans().handlings(0), 0);
        E.is("all go in", x.handlings(0), 5);
        for (int k = 0; k < 5; k++) {
            x.put(k, k);
        }
        E.is("all lie so", x.handlings(0), 0);
        E.is("all go out and in", x.handlings(719), 10);
        // loading 1: as 0, but PALLET 4 on 5; SPOTS 0 to 3 are on its way
        E.is("loading(1, 4)", x.loading(1, 4), 5);
        E.is("the farthest goes one farther", x.handlings(1), 10);
        LoadSpans y = Texts.loader(six.replace("front", "back"), pallets(5, 1, 1));
        for (int k = 0; k < 5; k++) {
            y.put(k, k);
        }
        E.is("back: the nearest goes one nearer", y.handlings(1), 2);
        y.off(4);
        E.is("back: the nearest is OUT", y.handlings(1), 1);
        LoadSpans z = lying("hold a 99 front;spot 50 1;spot 50 2;hold b 99 back;spot 50 3;spot 50 4;",
            "pallet a 2 1;pallet b 4 1;", 0, 2);
        // a must go to 1, 2 or 3; b to 3 alone: 1 3 first
        E.is("loading(0, 0)", z.loading(0, 0), 1);
        E.is("through two DOORS", z.handlings(0), 4);
        String pair = "hold a 9 front;spot 50 1;spot 50 2;";
        E.is("in, over one that stays", lying(pair, "pallet a 2 1;pallet b 1 1;", -1, 0).handlings(0), 3);
        E.is("in, over none", lying(pair, "pallet a 2 1;pallet b 1 1;", 1, -1).handlings(0), 1);
        E.is("in, over none", lying(pair.replace("front", "back"), "pallet a 2 1;pallet b 1 1;", -1, 0).handlings(0), 1);
        E.is("back: in, over one that stays",
            lying(pair.replace("front", "back"), "pallet a 2 1;pallet b 1 1;", 1, -1).handlings(0), 3);
        String other = "hold a 9 front;spot 50 1;spot 50 1;hold b 9 front;spot 50 2;";
        E.is("out, over one that stays", lying(other, "pallet a 2 1;pallet b 1 1;", 1, 0).handlings(0), 4);
        E.is("out, over none", lying(other, "pallet a 2 1;pallet b 1 1;", 0, 1).handlings(1), 2);
        E.is("from HOLD to HOLD", lying("hold a 9 front;spot 50 1;hold b 9 front;spot 50 2;", "pallet a 2 1;", 0).handlings(0), 2);
        E.is("within a HOLD", lying("hold a 9 front;spot 50 1;spot 50 2;", "pallet a 2 1;", 0).handlings(0), 2);
    }
}
